/-- what asks, buys, tells put into the list -/
def aL (q : Nat) : List Nat := if q = 2 then [30, 10] else if q = 4 then [50, 10] else if q = 5 then [30, 10] else if q = 6 then [71, 10] else [10]
def bL (q : Nat) : List Nat := if q = 1 then 20 :: 11 :: aL q else if q = 4 then 51 :: 20 :: 11 :: aL q else if q = 6 then 70 :: (11 :: aL q ++ [10]) else 11 :: aL q
def tL (q : Nat) : List Nat := if q = 3 then 40 :: (12 :: bL q ++ bL q) else if q = 5 then 60 :: 12 :: bL q else if q = 6 then 40 :: (12 :: bL q ++ bL q) else 12 :: bL q
theorem aL_len (q : Nat) : (aL q).length ≤ 2 := by unfold aL; split <;> (try split) <;> (try split) <;> (try split) <;> simp
theorem bL_len (q : Nat) : (bL q).length ≤ 5 := by have := aL_len q; unfold bL; split <;> (try split) <;> (try split) <;> simp <;> omega
theorem tL_len (q : Nat) : (tL q).length ≤ 12 := by have := bL_len q; unfold tL; split <;> (try split) <;> (try split) <;> simp <;> omega
/-- the list grows by L from its z elements on -/
def EB (z : Nat) (L : List Nat) (S U : FS) : Prop := fF U 61 2 = nI (z + L.length) ∧ (∀ i, i < z → el U i = el S i) ∧ ∀ j, j < L.length → el U (z + j) = some (L.getD j 0 + 128)
theorem eb_0 {z : Nat} {S : FS} (h : fF S 61 2 = nI z) : EB z [] S S := ⟨h, fun _ _ => rfl, fun j hj => absurd hj (Nat.not_lt_zero j)⟩
theorem eb_app {z w : Nat} {L K : List Nat} {S T U : FS} (h : EB z L S T) (hw : fF T 61 2 = nI w) (hz : z ≤ 100) (hw1 : w ≤ 100) (hl : L.length ≤ 100) (k : EB w K T U) : EB z (L ++ K) S U := by
  have e : w = z + L.length := (nI_eq (by omega) (by omega)).mp (hw.symm.trans h.1)
  subst e
  refine ⟨by rw [k.1, List.length_append, Nat.add_assoc], fun i hi => (k.2.1 i (by omega)).trans (h.2.1 i hi), fun j hj => ?_⟩
  rw [List.length_append] at hj
  by_cases c : j < L.length
  · rw [k.2.1 (z + j) (by omega), h.2.2 j c, List.getD_eq_getElem?_getD, List.getD_eq_getElem?_getD, List.getElem?_append_left c]
  · obtain ⟨d, rfl⟩ : ∃ d, j = L.length + d := ⟨j - L.length, by omega⟩
    rw [← Nat.add_assoc, k.2.2 d (by omega), List.getD_eq_getElem?_getD, List.getD_eq_getElem?_getD, List.getElem?_append_right (by omega), Nat.add_sub_cancel_left]
theorem eb_1 {w b jb : Nat} {T U : FS} (e1 : fF U 61 2 = nI (w + 1)) (e2 : (∀ i, i < w → el U i = el T i) ∧ el U w = some jb) (ej : jb = b + 128) : EB w [b] T U :=
  ⟨e1, e2.1, fun j hj => by
    have : j = 0 := by simpa using hj
    subst this
    rw [Nat.add_zero, e2.2, ej]
    rfl⟩
/-- the list holds L and nothing else -/
def EC (L : List Nat) (U : FS) : Prop := fF U 61 2 = nI L.length ∧ ∀ j, j < L.length → el U j = some (L.getD j 0 + 128)
theorem ec_of {L : List Nat} {S U : FS} (h : EB 0 L S U) : EC L U := ⟨by rw [h.1, Nat.zero_add], fun j hj => by rw [← h.2.2 j hj, Nat.zero_add]⟩
theorem aV_0 (v i x : Int32) : aV (nI 0) v i x = x + i := by
  unfold aV
  rw [if_neg (by decide), if_neg (by decide), if_neg (by decide), if_neg (by decide)]
theorem aV_1 (v i x : Int32) : aV (nI 1) v i x = x + i := by
  unfold aV
  rw [if_neg (by decide), if_neg (by decide), if_neg (by decide), if_neg (by decide)]
theorem aV_2 (v i x : Int32) : aV (nI 2) v i x = x * 3 + i := by
  unfold aV
  rw [if_pos (by decide)]
theorem aV_3 (v i x : Int32) : aV (nI 3) v i x = x + i := by
  unfold aV
  rw [if_neg (by decide), if_neg (by decide), if_neg (by decide), if_neg (by decide)]
theorem aV_4 (v i x : Int32) : aV (nI 4) v i x = -(x + i) := by
  unfold aV
  rw [if_neg (by decide), if_pos (by decide)]
theorem aV_5 (v i x : Int32) : aV (nI 5) v i x = x * 3 + i := by
  unfold aV
  rw [if_neg (by decide), if_neg (by decide), if_pos (by decide)]
theorem aV_6 (v i x : Int32) : aV (nI 6) v i x = (x + i) ^^^ v := by
  unfold aV
  rw [if_neg (by decide), if_neg (by decide), if_neg (by decide), if_pos (by decide)]
theorem bV_0 (v i x : Int32) : bV (nI 0) v i x = aV (nI 0) v i x - v := by
  unfold bV
  unfold bPV
  rw [if_neg (by decide), if_neg (by decide), if_neg (by decide)]
theorem bV_1 (v i x : Int32) : bV (nI 1) v i x = (aV (nI 1) v i x - v) ^^^ 6 := by
  unfold bV
  unfold bPV
  rw [if_pos (by decide)]
theorem bV_2 (v i x : Int32) : bV (nI 2) v i x = aV (nI 2) v i x - v := by
  unfold bV
  unfold bPV
  rw [if_neg (by decide), if_neg (by decide), if_neg (by decide)]
theorem bV_3 (v i x : Int32) : bV (nI 3) v i x = aV (nI 3) v i x - v := by
  unfold bV
  unfold bPV
  rw [if_neg (by decide), if_neg (by decide), if_neg (by decide)]
theorem bV_4 (v i x : Int32) : bV (nI 4) v i x = (aV (nI 4) v i (x + 1) - v) ^^^ 6 := by
  unfold bV
  unfold bPV
  rw [if_neg (by decide), if_pos (by decide)]
theorem bV_5 (v i x : Int32) : bV (nI 5) v i x = aV (nI 5) v i x - v := by
  unfold bV
  unfold bPV
  rw [if_neg (by decide), if_neg (by decide), if_neg (by decide)]
theorem bV_6 (v i x : Int32) : bV (nI 6) v i x = aV (nI 6) v i x - v + (2 + i) := by
  unfold bV
  unfold bPV
  rw [if_neg (by decide), if_neg (by decide), if_pos (by decide)]
theorem tlV_0 (v i x : Int32) : tlV (nI 0) v i x = bV (nI 0) v i x * 2 := by
  unfold tlV
  rw [if_neg (by decide), if_neg (by decide), if_neg (by decide)]
theorem tlV_1 (v i x : Int32) : tlV (nI 1) v i x = bV (nI 1) v i x * 2 := by
  unfold tlV
  rw [if_neg (by decide), if_neg (by decide), if_neg (by decide)]
theorem tlV_2 (v i x : Int32) : tlV (nI 2) v i x = bV (nI 2) v i x * 2 := by
  unfold tlV
  rw [if_neg (by decide), if_neg (by decide), if_neg (by decide)]
theorem tlV_3 (v i x : Int32) : tlV (nI 3) v i x = bV (nI 3) v i x * 2 + bV (nI 3) v i 1 := by
  unfold tlV
  rw [if_pos (by decide)]
theorem tlV_4 (v i x : Int32) : tlV (nI 4) v i x = bV (nI 4) v i x * 2 := by
  unfold tlV
  rw [if_neg (by decide), if_neg (by decide), if_neg (by decide)]
theorem tlV_5 (v i x : Int32) : tlV (nI 5) v i x = bV (nI 5) v i (x - i) * 2 := by
  unfold tlV
  rw [if_neg (by decide), if_pos (by decide)]
theorem tlV_6 (v i x : Int32) : tlV (nI 6) v i x = bV (nI 6) v i x * 2 + bV (nI 6) v i 1 := by
  unfold tlV
  rw [if_neg (by decide), if_neg (by decide), if_pos (by decide)]
set_option maxHeartbeats 800000 in
set_option maxRecDepth 100000 in
theorem c_x5_asks1E (l : Launch) (G : GG) (ad : Nat → Nat) (S : FS) (sz : Nat) (qz i z : Nat) (x : Int32) (hq : qz < 7) (hpk : pk i = 7) (hzz : fF S 61 2 = nI z) (hzN : z + 1 ≤ 40) (hX : XI S) : Met l yX5_asks (Cond.code yX5_asks cX5_asks 4 (some .int) :: TBL) ({ frames := 13, cells := 1, slots := 64, locals := 425 } : Room) (PcE G (wX G ad S) sz [.ref (ad (2 + qz)), .ref (ad i), .int (x), .ref (ad 61)]) (va_Qi (fun (r : Int32) (u : FS × (Nat → Nat)) => XI u.1 ∧ Fr (fun j k => j = 61 ∨ (71 ≤ j ∧ (fK S j = 2 ∨ 71 + fC S ≤ j))) S u.1 ∧ (∀ j, j < 71 + fC S → u.2 j = ad j) ∧ (∃ z', z' ≤ z + 1 ∧ fF u.1 61 2 = nI z') ∧ r = x + ((fF S i 0)) ∧ EB z ([10]) S u.1) (fun u t => BW G (va_A (wX G ad S) sz) (wX G u.2 u.1) t) (va_A (wX G ad S) sz)) 1 64 (va_A (wX G ad S) sz) := by
  refine Met.ofW (cc := cX5_asks) (maxL := 4) (ret := (some .int)) (by decide) rfl ?_
  intro p e s m args below meth c₀ s₁ B hml hv
  obtain ⟨rfl, hsz, hP, hK, hD0, hE⟩ := hv
  have hx := B.exec
  have hb := B.bytes
  have hr := B.returns
  have hT : ∀ w ∈ TBL, w.before ([.ref (ad (2 + qz)), .ref (ad i), .int (x), .ref (ad 61)] : List Value).toArray s = true := fun w h => atoms_spec (ws := Cond.code yX5_asks cX5_asks 4 (some .int) :: TBL) B.pre w (List.mem_cons_of_mem _ h)
  have hown : s.vm.findClass "LittleMore$Kind" = some m.cls := findClass_of_methodNamed B.named
  have hlocks := B.notSynchronized
  subst hsz
  have hD := hD0.self (sz := s.heap.size)
  generalize hAe : va_A (wX G ad S) s.heap.size = A at hD hE ⊢
  have hA : ∀ q : Nat, s.heap.size ≤ q → A q := fun q h => by rw [← hAe]; exact Or.inr h
  have hS : va_S A s.heap s.heap [] := va_S.rf
  have hP : va_P G.1 vwCl (wX G ad S) s.heap := hP
  have hl := lv_entry ([.ref (ad (2 + qz)), .ref (ad i), .int (x), .ref (ad 61)]) (n := 4) (Nat.le_of_ble_eq_true rfl)
  rw [lg_entry_eq]
  generalize (lg_sl ([.ref (ad (2 + qz)), .ref (ad i), .int (x), .ref (ad 61)]) ++ List.replicate (4 - (lg_sl ([.ref (ad (2 + qz)), .ref (ad i), .int (x), .ref (ad 61)])).length) Slot.unset).toArray = ls at hl ⊢
  have hl : lv_has ls 4 [(0, .ref (ad (2 + qz))), (1, .ref (ad i)), (2, .int (x)), (3, .ref (ad 61))] := hl
  refine W_abs (fun Q hQ => ?_)
  generalize ([.ref (ad (2 + qz)), .ref (ad i), .int (x), .ref (ad 61)] : List Value).toArray = args at hT hQ ⊢
  have hb_i := pk7 hpk
  obtain ⟨r_k, hr_k⟩ := kcl_at hq
  refine lv_aload_n hx hb (fk_get fk_cX5_asks_0 0 rfl) rfl (lv_at hl 3 rfl) ?_
  refine lv_bipush (v := 10) hx hb (fk_get fk_cX5_asks_0 1 rfl) (by decide) ?_
  have hFc := va_self hD hS hA
  refine va_csq (W.runS (As := [.int (10)]) (rest := [.ref (ad 61)]) ⟨hx, hb, hml, hown, hT⟩ (c_jvalueOf l G ad S s.heap.size (10) (by first | assumption | omega) (hX)) (tS 1 hT m4_222 m4_130 m1_26 m4_131 rfl rfl (by decide +kernel) ⟨Nat.le_of_ble_eq_true rfl, Nat.le_of_ble_eq_true rfl⟩) ⟨PcE_blind, PcE_of hP hK hD hE hS (fun q h => hFc q h) _⟩ rfl rfl hl.1 rfl (lv_room (Nat.le_of_ble_eq_true rfl)) (fk_get fk_cX5_asks_0 2 rfl) ⟨Nat.zero_le _, Nat.zero_le _⟩) (fun r_1 hw_2 => ?_)
  try dsimp only at hw_2
  obtain ⟨jb_3, hb_3, eb_3, rfl⟩ := hw_2
  rw [show va_rf (some (G.2.2.2 jb_3)) = .ref (G.2.2.2 jb_3) from rfl]
  have hFc := va_self hD hS hA
  refine va_calli (va_runV (As := [.ref (G.2.2.2 jb_3)]) (rest := []) ⟨hx, hb, hml, hown, hT⟩ (c_jadd l G ad S s.heap.size (z) (jb_3) (hzz) (by first | assumption | omega) (hb_3) (hX)) (tV 1 hT m4_223 m4_150 m4_151 m1_15 m4_152 rfl rfl (by decide +kernel) ⟨Nat.le_of_ble_eq_true rfl, Nat.le_of_ble_eq_true rfl⟩) ⟨PcE_blind, va_recv hK hP (ci := 1) (q0 := 61) rfl (ix_at (lt71 (by omega)) (cX_lst G ad S)), PcE_of hP hK hD hE hS (fun q h => hFc q h) _⟩ rfl rfl hl.1 rfl (lv_room (Nat.le_of_ble_eq_true rfl)) (fk_get fk_cX5_asks_0 3 rfl) ⟨Nat.le_of_ble_eq_true rfl, Nat.le_of_ble_eq_true rfl⟩) hS (fun q _ h => hFc q h) hFc (fun r_3 u_ t_ H locs ht_ hvm_ hw_4 hB_ hz_ hk_ hS => ?_)
  obtain ⟨S_5, ad_6⟩ := u_
  dsimp only at hB_ hw_4
  obtain ⟨hP, -, hD1_⟩ := hB_
  rw [ht_] at hP
  have hD : va_D A (wX G ad_6 S_5) := hD1_.weaken (fun k q _ h => hFc q.1 h)
  obtain ⟨hX_7, hF_8_, hg_9_, hw_4⟩ := hw_4
  have hg_9 : ∀ j, j < 71 + fC S → ad_6 j = ad j := fun j hj => (hg_9_ j (Nat.lt_of_lt_of_le hj (Nat.add_le_add_left ((Fr.rf : Fr (fun j k => j = 61 ∨ (71 ≤ j ∧ (fK S j = 2 ∨ 71 + fC S ≤ j))) S S)).1 71))).trans ((fun _ _ => rfl) j hj)
  have hF_8 : Fr (fun j k => j = 61 ∨ (71 ≤ j ∧ (fK S j = 2 ∨ 71 + fC S ≤ j))) S S_5 := Fr.tr (Fr.rf : Fr (fun j k => j = 61 ∨ (71 ≤ j ∧ (fK S j = 2 ∨ 71 + fC S ≤ j))) S S) hF_8_ (fun j k hj h => by have hc_ := ((Fr.rf : Fr (fun j k => j = 61 ∨ (71 ≤ j ∧ (fK S j = 2 ∨ 71 + fC S ≤ j))) S S)).1; have hk_ := Fr.K ((Fr.rf : Fr (fun j k => j = 61 ∨ (71 ≤ j ∧ (fK S j = 2 ∨ 71 + fC S ≤ j))) S S)) hj; omega)
  have hl : lv_has ls 4 [(0, .ref (ad_6 (2 + qz))), (1, .ref (ad_6 i)), (2, .int (x)), (3, .ref (ad_6 61))] := by rw [hg_9_ (2 + qz) ((lt71 (by omega))), hg_9_ i ((lt71 (by omega))), hg_9_ 61 ((lt71 (by omega)))]; exact hl
  obtain ⟨ez_10, hw_4_⟩ := hw_4
  have eb_11 : EB z ([] ++ [10]) S S_5 := eb_app (eb_0 hzz) hzz (by omega) (by omega) (by simp only [List.length_append, List.length_cons, List.length_nil]; have := aL_len qz; have := bL_len qz; omega) (eb_1 ez_10 hw_4_ eb_3)
  refine lv_pop hx hb (fk_get fk_cX5_asks_0 4 rfl) rfl ?_
  refine lv_iload_n hx hb (fk_get fk_cX5_asks_0 5 rfl) rfl (lv_at hl 2 rfl) ?_
  refine lv_aload_n hx hb (fk_get fk_cX5_asks_0 6 rfl) rfl (lv_at hl 1 rfl) ?_
  refine va_get (D := G.1) (ci := 5) (v := .int (fF S_5 i 0)) (C := RX3) (T := TX3) (N := 10) hx hb hT inX3 hown hK hP i (ix_at (lt71 (by omega)) (cX_cust hpk)) rfl 0 (by decide) (hT _ m1_138) (fun _ h9 => h9) rfl (fk_get fk_cX5_asks_0 7 rfl) ?_
  have ff_12 : fF S_5 i 0 = fF S i 0 := Fr.F hF_8 (lt71 (by omega)) (fun q => by omega)
  refine lv_iadd hx hb (fk_get fk_cX5_asks_0 8 rfl) ?_
  subst hQ
  have hpost : XI S_5 ∧ Fr (fun j k => j = 61 ∨ (71 ≤ j ∧ (fK S j = 2 ∨ 71 + fC S ≤ j))) S S_5 ∧ (∀ j, j < 71 + fC S → ad_6 j = ad j) ∧ (∃ z', z' ≤ z + 1 ∧ fF S_5 61 2 = nI z') ∧ ((x + (fF S_5 i 0)) : Int32) = x + ((fF S i 0)) ∧ EB z ([10]) S S_5 := by
    exact ⟨hX_7, hF_8, hg_9, ⟨⟨_, by omega, ez_10⟩, by first | rfl | rw [ff_12], eb_11⟩⟩
  refine W.widen (k := 1) (n := 64) (by omega) (by omega) ?_
  exact W.iret (v := (x + (fF S_5 i 0))) hx hb hr (fun t_ ht_ hW_ => ⟨⟨(x + (fF S_5 i 0)), (S_5, ad_6), rfl, hpost, by rw [ht_]; exact hP, va_K.moved hW_.alike hK, hD⟩, hS.F ht_⟩) hS.2.2 (fk_get fk_cX5_asks_0 9 rfl)
set_option maxHeartbeats 800000 in
set_option maxRecDepth 100000 in
theorem c_x5_asksE (l : Launch) (G : GG) (ad : Nat → Nat) (S : FS) (sz : Nat) (qz i z : Nat) (x : Int32) (hq : qz < 7) (hpk : pk i = 7) (hzz : fF S 61 2 = nI z) (hzN : z + 2 ≤ 40) (hX : XI S) : Met l yX5_asks (Cond.code yX5_asks cX5_asks 4 (some .int) :: TBL) ({ frames := 13, cells := 2, slots := 128, locals := 425 } : Room) (PcE G (wX G ad S) sz [.ref (ad (2 + qz)), .ref (ad i), .int (x), .ref (ad 61)]) (va_Qi (fun (r : Int32) (u : FS × (Nat → Nat)) => XI u.1 ∧ Fr (fun j k => j = 61 ∨ (71 ≤ j ∧ (fK S j = 2 ∨ 71 + fC S ≤ j))) S u.1 ∧ (∀ j, j < 71 + fC S → u.2 j = ad j) ∧ (∃ z', z' ≤ z + 2 ∧ fF u.1 61 2 = nI z') ∧ r = x + ((fF S i 0)) ∧ EB z ([10]) S u.1) (fun u t => BW G (va_A (wX G ad S) sz) (wX G u.2 u.1) t) (va_A (wX G ad S) sz)) 2 128 (va_A (wX G ad S) sz) := by
  refine Met.ofW (cc := cX5_asks) (maxL := 4) (ret := (some .int)) (by decide) rfl ?_
  intro p e s m args below meth c₀ s₁ B hml hv
  obtain ⟨rfl, hsz, hP, hK, hD0, hE⟩ := hv
  have hx := B.exec
  have hb := B.bytes
  have hr := B.returns
  have hT : ∀ w ∈ TBL, w.before ([.ref (ad (2 + qz)), .ref (ad i), .int (x), .ref (ad 61)] : List Value).toArray s = true := fun w h => atoms_spec (ws := Cond.code yX5_asks cX5_asks 4 (some .int) :: TBL) B.pre w (List.mem_cons_of_mem _ h)
  have hown : s.vm.findClass "LittleMore$Kind" = some m.cls := findClass_of_methodNamed B.named
  have hlocks := B.notSynchronized
  subst hsz
  have hD := hD0.self (sz := s.heap.size)
  generalize hAe : va_A (wX G ad S) s.heap.size = A at hD hE ⊢
  have hA : ∀ q : Nat, s.heap.size ≤ q → A q := fun q h => by rw [← hAe]; exact Or.inr h
  have hS : va_S A s.heap s.heap [] := va_S.rf
  have hP : va_P G.1 vwCl (wX G ad S) s.heap := hP
  have hl := lv_entry ([.ref (ad (2 + qz)), .ref (ad i), .int (x), .ref (ad 61)]) (n := 4) (Nat.le_of_ble_eq_true rfl)
  rw [lg_entry_eq]
  generalize (lg_sl ([.ref (ad (2 + qz)), .ref (ad i), .int (x), .ref (ad 61)]) ++ List.replicate (4 - (lg_sl ([.ref (ad (2 + qz)), .ref (ad i), .int (x), .ref (ad 61)])).length) Slot.unset).toArray = ls at hl ⊢
  have hl : lv_has ls 4 [(0, .ref (ad (2 + qz))), (1, .ref (ad i)), (2, .int (x)), (3, .ref (ad 61))] := hl
  refine W_abs (fun Q hQ => ?_)
  generalize ([.ref (ad (2 + qz)), .ref (ad i), .int (x), .ref (ad 61)] : List Value).toArray = args at hT hQ ⊢
  have hb_i := pk7 hpk
  obtain ⟨r_k, hr_k⟩ := kcl_at hq
  refine lv_aload_n hx hb (fk_get fk_cX5_asks_0 0 rfl) rfl (lv_at hl 3 rfl) ?_
  refine lv_bipush (v := 10) hx hb (fk_get fk_cX5_asks_0 1 rfl) (by decide) ?_
  have hFc := va_self hD hS hA
  refine va_csq (W.runS (As := [.int (10)]) (rest := [.ref (ad 61)]) ⟨hx, hb, hml, hown, hT⟩ (c_jvalueOf l G ad S s.heap.size (10) (by first | assumption | omega) (hX)) (tS 1 hT m4_222 m4_130 m1_26 m4_131 rfl rfl (by decide +kernel) ⟨Nat.le_of_ble_eq_true rfl, Nat.le_of_ble_eq_true rfl⟩) ⟨PcE_blind, PcE_of hP hK hD hE hS (fun q h => hFc q h) _⟩ rfl rfl hl.1 rfl (lv_room (Nat.le_of_ble_eq_true rfl)) (fk_get fk_cX5_asks_0 2 rfl) ⟨Nat.zero_le _, Nat.zero_le _⟩) (fun r_1 hw_2 => ?_)
  try dsimp only at hw_2
  obtain ⟨jb_3, hb_3, eb_3, rfl⟩ := hw_2
  rw [show va_rf (some (G.2.2.2 jb_3)) = .ref (G.2.2.2 jb_3) from rfl]
  have hFc := va_self hD hS hA
  refine va_calli (va_runV (As := [.ref (G.2.2.2 jb_3)]) (rest := []) ⟨hx, hb, hml, hown, hT⟩ (c_jadd l G ad S s.heap.size (z) (jb_3) (hzz) (by first | assumption | omega) (hb_3) (hX)) (tV 1 hT m4_223 m4_150 m4_151 m1_15 m4_152 rfl rfl (by decide +kernel) ⟨Nat.le_of_ble_eq_true rfl, Nat.le_of_ble_eq_true rfl⟩) ⟨PcE_blind, va_recv hK hP (ci := 1) (q0 := 61) rfl (ix_at (lt71 (by omega)) (cX_lst G ad S)), PcE_of hP hK hD hE hS (fun q h => hFc q h) _⟩ rfl rfl hl.1 rfl (lv_room (Nat.le_of_ble_eq_true rfl)) (fk_get fk_cX5_asks_0 3 rfl) ⟨Nat.le_of_ble_eq_true rfl, Nat.le_of_ble_eq_true rfl⟩) hS (fun q _ h => hFc q h) hFc (fun r_3 u_ t_ H locs ht_ hvm_ hw_4 hB_ hz_ hk_ hS => ?_)
  obtain ⟨S_5, ad_6⟩ := u_
  dsimp only at hB_ hw_4
  obtain ⟨hP, -, hD1_⟩ := hB_
  rw [ht_] at hP
  have hD : va_D A (wX G ad_6 S_5) := hD1_.weaken (fun k q _ h => hFc q.1 h)
  obtain ⟨hX_7, hF_8_, hg_9_, hw_4⟩ := hw_4
  have hg_9 : ∀ j, j < 71 + fC S → ad_6 j = ad j := fun j hj => (hg_9_ j (Nat.lt_of_lt_of_le hj (Nat.add_le_add_left ((Fr.rf : Fr (fun j k => j = 61 ∨ (71 ≤ j ∧ (fK S j = 2 ∨ 71 + fC S ≤ j))) S S)).1 71))).trans ((fun _ _ => rfl) j hj)
  have hF_8 : Fr (fun j k => j = 61 ∨ (71 ≤ j ∧ (fK S j = 2 ∨ 71 + fC S ≤ j))) S S_5 := Fr.tr (Fr.rf : Fr (fun j k => j = 61 ∨ (71 ≤ j ∧ (fK S j = 2 ∨ 71 + fC S ≤ j))) S S) hF_8_ (fun j k hj h => by have hc_ := ((Fr.rf : Fr (fun j k => j = 61 ∨ (71 ≤ j ∧ (fK S j = 2 ∨ 71 + fC S ≤ j))) S S)).1; have hk_ := Fr.K ((Fr.rf : Fr (fun j k => j = 61 ∨ (71 ≤ j ∧ (fK S j = 2 ∨ 71 + fC S ≤ j))) S S)) hj; omega)
  have hl : lv_has ls 4 [(0, .ref (ad_6 (2 + qz))), (1, .ref (ad_6 i)), (2, .int (x)), (3, .ref (ad_6 61))] := by rw [hg_9_ (2 + qz) ((lt71 (by omega))), hg_9_ i ((lt71 (by omega))), hg_9_ 61 ((lt71 (by omega)))]; exact hl
  obtain ⟨ez_10, hw_4_⟩ := hw_4
  have eb_11 : EB z ([] ++ [10]) S S_5 := eb_app (eb_0 hzz) hzz (by omega) (by omega) (by simp only [List.length_append, List.length_cons, List.length_nil]; have := aL_len qz; have := bL_len qz; omega) (eb_1 ez_10 hw_4_ eb_3)
  refine lv_pop hx hb (fk_get fk_cX5_asks_0 4 rfl) rfl ?_
  refine lv_iload_n hx hb (fk_get fk_cX5_asks_0 5 rfl) rfl (lv_at hl 2 rfl) ?_
  refine lv_aload_n hx hb (fk_get fk_cX5_asks_0 6 rfl) rfl (lv_at hl 1 rfl) ?_
  refine va_get (D := G.1) (ci := 5) (v := .int (fF S_5 i 0)) (C := RX3) (T := TX3) (N := 10) hx hb hT inX3 hown hK hP i (ix_at (lt71 (by omega)) (cX_cust hpk)) rfl 0 (by decide) (hT _ m1_138) (fun _ h9 => h9) rfl (fk_get fk_cX5_asks_0 7 rfl) ?_
  have ff_12 : fF S_5 i 0 = fF S i 0 := Fr.F hF_8 (lt71 (by omega)) (fun q => by omega)
  refine lv_iadd hx hb (fk_get fk_cX5_asks_0 8 rfl) ?_
  subst hQ
  have hpost : XI S_5 ∧ Fr (fun j k => j = 61 ∨ (71 ≤ j ∧ (fK S j = 2 ∨ 71 + fC S ≤ j))) S S_5 ∧ (∀ j, j < 71 + fC S → ad_6 j = ad j) ∧ (∃ z', z' ≤ z + 2 ∧ fF S_5 61 2 = nI z') ∧ ((x + (fF S_5 i 0)) : Int32) = x + ((fF S i 0)) ∧ EB z ([10]) S S_5 := by
    exact ⟨hX_7, hF_8, hg_9, ⟨⟨_, by omega, ez_10⟩, by first | rfl | rw [ff_12], eb_11⟩⟩
  refine W.widen (k := 2) (n := 128) (by omega) (by omega) ?_
  exact W.iret (v := (x + (fF S_5 i 0))) hx hb hr (fun t_ ht_ hW_ => ⟨⟨(x + (fF S_5 i 0)), (S_5, ad_6), rfl, hpost, by rw [ht_]; exact hP, va_K.moved hW_.alike hK, hD⟩, hS.F ht_⟩) hS.2.2 (fk_get fk_cX5_asks_0 9 rfl)
set_option maxHeartbeats 800000 in
set_option maxRecDepth 100000 in
theorem c_x4_asksE (l : Launch) (G : GG) (ad : Nat → Nat) (S : FS) (sz : Nat) (qz i z : Nat) (x : Int32) (hq : qz < 7) (hpk : pk i = 7) (hzz : fF S 61 2 = nI z) (hzN : z + 2 ≤ 40) (hX : XI S) : Met l yX4_asks (Cond.code yX4_asks cX4_asks 4 (some .int) :: TBL) ({ frames := 14, cells := 2, slots := 128, locals := 452 } : Room) (PcE G (wX G ad S) sz [.ref (ad (2 + qz)), .ref (ad i), .int (x), .ref (ad 61)]) (va_Qi (fun (r : Int32) (u : FS × (Nat → Nat)) => XI u.1 ∧ Fr (fun j k => j = 61 ∨ (71 ≤ j ∧ (fK S j = 2 ∨ 71 + fC S ≤ j))) S u.1 ∧ (∀ j, j < 71 + fC S → u.2 j = ad j) ∧ (∃ z', z' ≤ z + 2 ∧ fF u.1 61 2 = nI z') ∧ r = x * 3 + ((fF S i 0)) ∧ EB z ([30, 10]) S u.1) (fun u t => BW G (va_A (wX G ad S) sz) (wX G u.2 u.1) t) (va_A (wX G ad S) sz)) 2 128 (va_A (wX G ad S) sz) := by
  refine Met.ofW (cc := cX4_asks) (maxL := 4) (ret := (some .int)) (by decide) rfl ?_
  intro p e s m args below meth c₀ s₁ B hml hv
  obtain ⟨rfl, hsz, hP, hK, hD0, hE⟩ := hv
  have hx := B.exec
  have hb := B.bytes
  have hr := B.returns
  have hT : ∀ w ∈ TBL, w.before ([.ref (ad (2 + qz)), .ref (ad i), .int (x), .ref (ad 61)] : List Value).toArray s = true := fun w h => atoms_spec (ws := Cond.code yX4_asks cX4_asks 4 (some .int) :: TBL) B.pre w (List.mem_cons_of_mem _ h)
  have hown : s.vm.findClass "LittleMore$Gentle" = some m.cls := findClass_of_methodNamed B.named
  have hlocks := B.notSynchronized
  subst hsz
  have hD := hD0.self (sz := s.heap.size)
  generalize hAe : va_A (wX G ad S) s.heap.size = A at hD hE ⊢
  have hA : ∀ q : Nat, s.heap.size ≤ q → A q := fun q h => by rw [← hAe]; exact Or.inr h
  have hS : va_S A s.heap s.heap [] := va_S.rf
  have hP : va_P G.1 vwCl (wX G ad S) s.heap := hP
  have hl := lv_entry ([.ref (ad (2 + qz)), .ref (ad i), .int (x), .ref (ad 61)]) (n := 4) (Nat.le_of_ble_eq_true rfl)
  rw [lg_entry_eq]
  generalize (lg_sl ([.ref (ad (2 + qz)), .ref (ad i), .int (x), .ref (ad 61)]) ++ List.replicate (4 - (lg_sl ([.ref (ad (2 + qz)), .ref (ad i), .int (x), .ref (ad 61)])).length) Slot.unset).toArray = ls at hl ⊢
  have hl : lv_has ls 4 [(0, .ref (ad (2 + qz))), (1, .ref (ad i)), (2, .int (x)), (3, .ref (ad 61))] := hl
  refine W_abs (fun Q hQ => ?_)
  generalize ([.ref (ad (2 + qz)), .ref (ad i), .int (x), .ref (ad 61)] : List Value).toArray = args at hT hQ ⊢
  have hb_i := pk7 hpk
  obtain ⟨r_k, hr_k⟩ := kcl_at hq
  refine lv_aload_n hx hb (fk_get fk_cX4_asks_0 0 rfl) rfl (lv_at hl 3 rfl) ?_
  refine lv_bipush (v := 30) hx hb (fk_get fk_cX4_asks_0 1 rfl) (by decide) ?_
  have hFc := va_self hD hS hA
  refine va_csq (W.runS (As := [.int (30)]) (rest := [.ref (ad 61)]) ⟨hx, hb, hml, hown, hT⟩ (c_jvalueOf l G ad S s.heap.size (30) (by first | assumption | omega) (hX)) (tS 1 hT m4_209 m4_130 m1_26 m4_131 rfl rfl (by decide +kernel) ⟨Nat.le_of_ble_eq_true rfl, Nat.le_of_ble_eq_true rfl⟩) ⟨PcE_blind, PcE_of hP hK hD hE hS (fun q h => hFc q h) _⟩ rfl rfl hl.1 rfl (lv_room (Nat.le_of_ble_eq_true rfl)) (fk_get fk_cX4_asks_0 2 rfl) ⟨Nat.zero_le _, Nat.zero_le _⟩) (fun r_1 hw_2 => ?_)
  try dsimp only at hw_2
  obtain ⟨jb_3, hb_3, eb_3, rfl⟩ := hw_2
  rw [show va_rf (some (G.2.2.2 jb_3)) = .ref (G.2.2.2 jb_3) from rfl]
  have hFc := va_self hD hS hA
  refine va_calli (va_runV (As := [.ref (G.2.2.2 jb_3)]) (rest := []) ⟨hx, hb, hml, hown, hT⟩ (c_jadd l G ad S s.heap.size (z) (jb_3) (hzz) (by first | assumption | omega) (hb_3) (hX)) (tV 1 hT m4_210 m4_150 m4_151 m1_15 m4_152 rfl rfl (by decide +kernel) ⟨Nat.le_of_ble_eq_true rfl, Nat.le_of_ble_eq_true rfl⟩) ⟨PcE_blind, va_recv hK hP (ci := 1) (q0 := 61) rfl (ix_at (lt71 (by omega)) (cX_lst G ad S)), PcE_of hP hK hD hE hS (fun q h => hFc q h) _⟩ rfl rfl hl.1 rfl (lv_room (Nat.le_of_ble_eq_true rfl)) (fk_get fk_cX4_asks_0 3 rfl) ⟨Nat.le_of_ble_eq_true rfl, Nat.le_of_ble_eq_true rfl⟩) hS (fun q _ h => hFc q h) hFc (fun r_3 u_ t_ H locs ht_ hvm_ hw_4 hB_ hz_ hk_ hS => ?_)
  obtain ⟨S_5, ad_6⟩ := u_
  dsimp only at hB_ hw_4
  obtain ⟨hP, -, hD1_⟩ := hB_
  rw [ht_] at hP
  have hD : va_D A (wX G ad_6 S_5) := hD1_.weaken (fun k q _ h => hFc q.1 h)
  obtain ⟨hX_7, hF_8_, hg_9_, hw_4⟩ := hw_4
  have hg_9 : ∀ j, j < 71 + fC S → ad_6 j = ad j := fun j hj => (hg_9_ j (Nat.lt_of_lt_of_le hj (Nat.add_le_add_left ((Fr.rf : Fr (fun j k => j = 61 ∨ (71 ≤ j ∧ (fK S j = 2 ∨ 71 + fC S ≤ j))) S S)).1 71))).trans ((fun _ _ => rfl) j hj)
  have hF_8 : Fr (fun j k => j = 61 ∨ (71 ≤ j ∧ (fK S j = 2 ∨ 71 + fC S ≤ j))) S S_5 := Fr.tr (Fr.rf : Fr (fun j k => j = 61 ∨ (71 ≤ j ∧ (fK S j = 2 ∨ 71 + fC S ≤ j))) S S) hF_8_ (fun j k hj h => by have hc_ := ((Fr.rf : Fr (fun j k => j = 61 ∨ (71 ≤ j ∧ (fK S j = 2 ∨ 71 + fC S ≤ j))) S S)).1; have hk_ := Fr.K ((Fr.rf : Fr (fun j k => j = 61 ∨ (71 ≤ j ∧ (fK S j = 2 ∨ 71 + fC S ≤ j))) S S)) hj; omega)
  have hl : lv_has ls 4 [(0, .ref (ad_6 (2 + qz))), (1, .ref (ad_6 i)), (2, .int (x)), (3, .ref (ad_6 61))] := by rw [hg_9_ (2 + qz) ((lt71 (by omega))), hg_9_ i ((lt71 (by omega))), hg_9_ 61 ((lt71 (by omega)))]; exact hl
  obtain ⟨ez_10, hw_4_⟩ := hw_4
  have eb_11 : EB z ([] ++ [30]) S S_5 := eb_app (eb_0 hzz) hzz (by omega) (by omega) (by simp only [List.length_append, List.length_cons, List.length_nil]; have := aL_len qz; have := bL_len qz; omega) (eb_1 ez_10 hw_4_ eb_3)
  refine lv_pop hx hb (fk_get fk_cX4_asks_0 4 rfl) rfl ?_
  refine lv_aload_n hx hb (fk_get fk_cX4_asks_0 5 rfl) rfl (lv_at hl 0 rfl) ?_
  refine lv_aload_n hx hb (fk_get fk_cX4_asks_0 6 rfl) rfl (lv_at hl 1 rfl) ?_
  refine lv_iload_n hx hb (fk_get fk_cX4_asks_0 7 rfl) rfl (lv_at hl 2 rfl) ?_
  refine lv_iconst (v := 3) hx hb (fk_get fk_cX4_asks_0 8 rfl) (by decide) ?_
  refine lv_imul hx hb (fk_get fk_cX4_asks_0 9 rfl) ?_
  refine lv_aload_n hx hb (fk_get fk_cX4_asks_0 10 rfl) rfl (lv_at hl 3 rfl) ?_
  have hFc := va_self hD hS hA
  refine va_calli (va_runSU (C := r_k.1) (As := [.ref (ad_6 i), .int ((x * 3)), .ref (ad_6 61)]) (rest := []) (hK.1 (kcl qz) r_k hr_k).2 ⟨hx, hb, hml, hown, hT⟩ (c_x5_asks1E l G ad_6 S_5 H.size (qz) (i) ((z + 1)) ((x * 3)) (hq) (hpk) (ez_10) (by first | assumption | omega) (hX_7)) (tSU 3 hT m4_211 m4_124 m1_66 m4_122 m1_2 m4_221 rfl rfl (by decide +kernel) ⟨Nat.le_of_ble_eq_true rfl, Nat.le_of_ble_eq_true rfl⟩) ⟨PcE_blind, va_recv hK hP hr_k (ix_at (lt71 (by omega)) (cX_knd hq)), PcE_of hP hK hD hE hS (fun q h => hFc q h) _⟩ rfl rfl hl.1 rfl (lv_room (Nat.le_of_ble_eq_true rfl)) (fk_get fk_cX4_asks_0 11 rfl) ⟨(by show (0 + 1) + 1 ≤ 2; omega), (by show (0 + 64) + 64 ≤ 128; omega)⟩) hS (fun q _ h => hFc q h) hFc (fun r_12 u_ t_ H locs ht_ hvm_ hw_13 hB_ hz_ hk_ hS => ?_)
  obtain ⟨S_14, ad_15⟩ := u_
  dsimp only at hB_ hw_13
  obtain ⟨hP, -, hD1_⟩ := hB_
  rw [ht_] at hP
  have hD : va_D A (wX G ad_15 S_14) := hD1_.weaken (fun k q _ h => hFc q.1 h)
  obtain ⟨hX_16, hF_17_, hg_18_, hw_13⟩ := hw_13
  have hg_18 : ∀ j, j < 71 + fC S → ad_15 j = ad j := fun j hj => (hg_18_ j (Nat.lt_of_lt_of_le hj (Nat.add_le_add_left (hF_8).1 71))).trans (hg_9 j hj)
  have hF_17 : Fr (fun j k => j = 61 ∨ (71 ≤ j ∧ (fK S j = 2 ∨ 71 + fC S ≤ j))) S S_14 := Fr.tr hF_8 hF_17_ (fun j k hj h => by have hc_ := (hF_8).1; have hk_ := Fr.K hF_8 hj; omega)
  have hl : lv_has ls 4 [(0, .ref (ad_15 (2 + qz))), (1, .ref (ad_15 i)), (2, .int (x)), (3, .ref (ad_15 61))] := by rw [hg_18_ (2 + qz) ((lt71 (by omega))), hg_18_ i ((lt71 (by omega))), hg_18_ 61 ((lt71 (by omega)))]; exact hl
  obtain ⟨⟨z_19, bz_19, ez_19⟩, hvz_19, hez_19⟩ := hw_13
  try rw [show fF S_5 i 3 = fF S i 3 from Fr.F hF_8 (lt71 (by omega)) (fun q => by omega)] at hvz_19
  try rw [show fF S_5 i 0 = fF S i 0 from Fr.F hF_8 (lt71 (by omega)) (fun q => by omega)] at hvz_19
  subst hvz_19
  have eb_20 : EB z (([] ++ [30]) ++ [10]) S S_14 := eb_app eb_11 ez_10 (by omega) (by omega) (by simp only [List.length_append, List.length_cons, List.length_nil]; have := aL_len qz; have := bL_len qz; omega) hez_19
  subst hQ
  have hpost : XI S_14 ∧ Fr (fun j k => j = 61 ∨ (71 ≤ j ∧ (fK S j = 2 ∨ 71 + fC S ≤ j))) S S_14 ∧ (∀ j, j < 71 + fC S → ad_15 j = ad j) ∧ (∃ z', z' ≤ z + 2 ∧ fF S_14 61 2 = nI z') ∧ (((((x * 3))) + (fF S i 0)) : Int32) = x * 3 + ((fF S i 0)) ∧ EB z ([30, 10]) S S_14 := by
    exact ⟨hX_16, hF_17, hg_18, ⟨⟨_, by omega, ez_19⟩, by rfl, eb_20⟩⟩
  refine W.widen (k := 2) (n := 128) (by omega) (by omega) ?_
  exact W.iret (v := ((((x * 3))) + (fF S i 0))) hx hb hr (fun t_ ht_ hW_ => ⟨⟨((((x * 3))) + (fF S i 0)), (S_14, ad_15), rfl, hpost, by rw [ht_]; exact hP, va_K.moved hW_.alike hK, hD⟩, hS.F ht_⟩) hS.2.2 (fk_get fk_cX4_asks_0 12 rfl)
set_option maxHeartbeats 800000 in
set_option maxRecDepth 100000 in
theorem c_x2_asksE (l : Launch) (G : GG) (ad : Nat → Nat) (S : FS) (sz : Nat) (qz i z : Nat) (x : Int32) (hq : qz < 7) (hpk : pk i = 7) (hzz : fF S 61 2 = nI z) (hzN : z + 2 ≤ 40) (hX : XI S) : Met l yX2_asks (Cond.code yX2_asks cX2_asks 4 (some .int) :: TBL) ({ frames := 14, cells := 2, slots := 128, locals := 452 } : Room) (PcE G (wX G ad S) sz [.ref (ad (2 + qz)), .ref (ad i), .int (x), .ref (ad 61)]) (va_Qi (fun (r : Int32) (u : FS × (Nat → Nat)) => XI u.1 ∧ Fr (fun j k => j = 61 ∨ (71 ≤ j ∧ (fK S j = 2 ∨ 71 + fC S ≤ j))) S u.1 ∧ (∀ j, j < 71 + fC S → u.2 j = ad j) ∧ (∃ z', z' ≤ z + 2 ∧ fF u.1 61 2 = nI z') ∧ r = -(x + ((fF S i 0))) ∧ EB z ([50, 10]) S u.1) (fun u t => BW G (va_A (wX G ad S) sz) (wX G u.2 u.1) t) (va_A (wX G ad S) sz)) 2 128 (va_A (wX G ad S) sz) := by
  refine Met.ofW (cc := cX2_asks) (maxL := 4) (ret := (some .int)) (by decide) rfl ?_
  intro p e s m args below meth c₀ s₁ B hml hv
  obtain ⟨rfl, hsz, hP, hK, hD0, hE⟩ := hv
  have hx := B.exec
  have hb := B.bytes
  have hr := B.returns
  have hT : ∀ w ∈ TBL, w.before ([.ref (ad (2 + qz)), .ref (ad i), .int (x), .ref (ad 61)] : List Value).toArray s = true := fun w h => atoms_spec (ws := Cond.code yX2_asks cX2_asks 4 (some .int) :: TBL) B.pre w (List.mem_cons_of_mem _ h)
  have hown : s.vm.findClass "LittleMore$Counting" = some m.cls := findClass_of_methodNamed B.named
  have hlocks := B.notSynchronized
  subst hsz
  have hD := hD0.self (sz := s.heap.size)
  generalize hAe : va_A (wX G ad S) s.heap.size = A at hD hE ⊢
  have hA : ∀ q : Nat, s.heap.size ≤ q → A q := fun q h => by rw [← hAe]; exact Or.inr h
  have hS : va_S A s.heap s.heap [] := va_S.rf
  have hP : va_P G.1 vwCl (wX G ad S) s.heap := hP
  have hl := lv_entry ([.ref (ad (2 + qz)), .ref (ad i), .int (x), .ref (ad 61)]) (n := 4) (Nat.le_of_ble_eq_true rfl)
  rw [lg_entry_eq]
  generalize (lg_sl ([.ref (ad (2 + qz)), .ref (ad i), .int (x), .ref (ad 61)]) ++ List.replicate (4 - (lg_sl ([.ref (ad (2 + qz)), .ref (ad i), .int (x), .ref (ad 61)])).length) Slot.unset).toArray = ls at hl ⊢
  have hl : lv_has ls 4 [(0, .ref (ad (2 + qz))), (1, .ref (ad i)), (2, .int (x)), (3, .ref (ad 61))] := hl
  refine W_abs (fun Q hQ => ?_)
  generalize ([.ref (ad (2 + qz)), .ref (ad i), .int (x), .ref (ad 61)] : List Value).toArray = args at hT hQ ⊢
  have hb_i := pk7 hpk
  obtain ⟨r_k, hr_k⟩ := kcl_at hq
  refine lv_aload_n hx hb (fk_get fk_cX2_asks_0 0 rfl) rfl (lv_at hl 3 rfl) ?_
  refine lv_bipush (v := 50) hx hb (fk_get fk_cX2_asks_0 1 rfl) (by decide) ?_
  have hFc := va_self hD hS hA
  refine va_csq (W.runS (As := [.int (50)]) (rest := [.ref (ad 61)]) ⟨hx, hb, hml, hown, hT⟩ (c_jvalueOf l G ad S s.heap.size (50) (by first | assumption | omega) (hX)) (tS 1 hT m4_129 m4_130 m1_26 m4_131 rfl rfl (by decide +kernel) ⟨Nat.le_of_ble_eq_true rfl, Nat.le_of_ble_eq_true rfl⟩) ⟨PcE_blind, PcE_of hP hK hD hE hS (fun q h => hFc q h) _⟩ rfl rfl hl.1 rfl (lv_room (Nat.le_of_ble_eq_true rfl)) (fk_get fk_cX2_asks_0 2 rfl) ⟨Nat.zero_le _, Nat.zero_le _⟩) (fun r_1 hw_2 => ?_)
  try dsimp only at hw_2
  obtain ⟨jb_3, hb_3, eb_3, rfl⟩ := hw_2
  rw [show va_rf (some (G.2.2.2 jb_3)) = .ref (G.2.2.2 jb_3) from rfl]
  have hFc := va_self hD hS hA
  refine va_calli (va_runV (As := [.ref (G.2.2.2 jb_3)]) (rest := []) ⟨hx, hb, hml, hown, hT⟩ (c_jadd l G ad S s.heap.size (z) (jb_3) (hzz) (by first | assumption | omega) (hb_3) (hX)) (tV 1 hT m4_149 m4_150 m4_151 m1_15 m4_152 rfl rfl (by decide +kernel) ⟨Nat.le_of_ble_eq_true rfl, Nat.le_of_ble_eq_true rfl⟩) ⟨PcE_blind, va_recv hK hP (ci := 1) (q0 := 61) rfl (ix_at (lt71 (by omega)) (cX_lst G ad S)), PcE_of hP hK hD hE hS (fun q h => hFc q h) _⟩ rfl rfl hl.1 rfl (lv_room (Nat.le_of_ble_eq_true rfl)) (fk_get fk_cX2_asks_0 3 rfl) ⟨Nat.le_of_ble_eq_true rfl, Nat.le_of_ble_eq_true rfl⟩) hS (fun q _ h => hFc q h) hFc (fun r_3 u_ t_ H locs ht_ hvm_ hw_4 hB_ hz_ hk_ hS => ?_)
  obtain ⟨S_5, ad_6⟩ := u_
  dsimp only at hB_ hw_4
  obtain ⟨hP, -, hD1_⟩ := hB_
  rw [ht_] at hP
  have hD : va_D A (wX G ad_6 S_5) := hD1_.weaken (fun k q _ h => hFc q.1 h)
  obtain ⟨hX_7, hF_8_, hg_9_, hw_4⟩ := hw_4
  have hg_9 : ∀ j, j < 71 + fC S → ad_6 j = ad j := fun j hj => (hg_9_ j (Nat.lt_of_lt_of_le hj (Nat.add_le_add_left ((Fr.rf : Fr (fun j k => j = 61 ∨ (71 ≤ j ∧ (fK S j = 2 ∨ 71 + fC S ≤ j))) S S)).1 71))).trans ((fun _ _ => rfl) j hj)
  have hF_8 : Fr (fun j k => j = 61 ∨ (71 ≤ j ∧ (fK S j = 2 ∨ 71 + fC S ≤ j))) S S_5 := Fr.tr (Fr.rf : Fr (fun j k => j = 61 ∨ (71 ≤ j ∧ (fK S j = 2 ∨ 71 + fC S ≤ j))) S S) hF_8_ (fun j k hj h => by have hc_ := ((Fr.rf : Fr (fun j k => j = 61 ∨ (71 ≤ j ∧ (fK S j = 2 ∨ 71 + fC S ≤ j))) S S)).1; have hk_ := Fr.K ((Fr.rf : Fr (fun j k => j = 61 ∨ (71 ≤ j ∧ (fK S j = 2 ∨ 71 + fC S ≤ j))) S S)) hj; omega)
  have hl : lv_has ls 4 [(0, .ref (ad_6 (2 + qz))), (1, .ref (ad_6 i)), (2, .int (x)), (3, .ref (ad_6 61))] := by rw [hg_9_ (2 + qz) ((lt71 (by omega))), hg_9_ i ((lt71 (by omega))), hg_9_ 61 ((lt71 (by omega)))]; exact hl
  obtain ⟨ez_10, hw_4_⟩ := hw_4
  have eb_11 : EB z ([] ++ [50]) S S_5 := eb_app (eb_0 hzz) hzz (by omega) (by omega) (by simp only [List.length_append, List.length_cons, List.length_nil]; have := aL_len qz; have := bL_len qz; omega) (eb_1 ez_10 hw_4_ eb_3)
  refine lv_pop hx hb (fk_get fk_cX2_asks_0 4 rfl) rfl ?_
  refine lv_aload_n hx hb (fk_get fk_cX2_asks_0 5 rfl) rfl (lv_at hl 0 rfl) ?_
  refine lv_aload_n hx hb (fk_get fk_cX2_asks_0 6 rfl) rfl (lv_at hl 1 rfl) ?_
  refine lv_iload_n hx hb (fk_get fk_cX2_asks_0 7 rfl) rfl (lv_at hl 2 rfl) ?_
  refine lv_aload_n hx hb (fk_get fk_cX2_asks_0 8 rfl) rfl (lv_at hl 3 rfl) ?_
  have hFc := va_self hD hS hA
  refine va_calli (sx_run (C := r_k.1) (As := [.ref (ad_6 i), .int (x), .ref (ad_6 61)]) (rest := []) (hK.1 (kcl qz) r_k hr_k).2 ⟨hx, hb, hml, hown, hT⟩ (c_x5_asks1E l G ad_6 S_5 H.size (qz) (i) ((z + 1)) (x) (hq) (hpk) (ez_10) (by first | assumption | omega) (hX_7)) (sx_of 3 hT m4_203 m4_204 m1_82 m1_58 m4_122 m1_2 m4_221 rfl rfl rfl (by decide +kernel) ⟨Nat.le_of_ble_eq_true rfl, Nat.le_of_ble_eq_true rfl⟩) ⟨PcE_blind, va_recv hK hP hr_k (ix_at (lt71 (by omega)) (cX_knd hq)), PcE_of hP hK hD hE hS (fun q h => hFc q h) _⟩ rfl rfl hl.1 rfl (lv_room (Nat.le_of_ble_eq_true rfl)) (fk_get fk_cX2_asks_0 9 rfl) ⟨(by show (0 + 1) + 1 ≤ 2; omega), (by show (0 + 64) + 64 ≤ 128; omega)⟩) hS (fun q _ h => hFc q h) hFc (fun r_12 u_ t_ H locs ht_ hvm_ hw_13 hB_ hz_ hk_ hS => ?_)
  obtain ⟨S_14, ad_15⟩ := u_
  dsimp only at hB_ hw_13
  obtain ⟨hP, -, hD1_⟩ := hB_
  rw [ht_] at hP
  have hD : va_D A (wX G ad_15 S_14) := hD1_.weaken (fun k q _ h => hFc q.1 h)
  obtain ⟨hX_16, hF_17_, hg_18_, hw_13⟩ := hw_13
  have hg_18 : ∀ j, j < 71 + fC S → ad_15 j = ad j := fun j hj => (hg_18_ j (Nat.lt_of_lt_of_le hj (Nat.add_le_add_left (hF_8).1 71))).trans (hg_9 j hj)
  have hF_17 : Fr (fun j k => j = 61 ∨ (71 ≤ j ∧ (fK S j = 2 ∨ 71 + fC S ≤ j))) S S_14 := Fr.tr hF_8 hF_17_ (fun j k hj h => by have hc_ := (hF_8).1; have hk_ := Fr.K hF_8 hj; omega)
  have hl : lv_has ls 4 [(0, .ref (ad_15 (2 + qz))), (1, .ref (ad_15 i)), (2, .int (x)), (3, .ref (ad_15 61))] := by rw [hg_18_ (2 + qz) ((lt71 (by omega))), hg_18_ i ((lt71 (by omega))), hg_18_ 61 ((lt71 (by omega)))]; exact hl
  obtain ⟨⟨z_19, bz_19, ez_19⟩, hvz_19, hez_19⟩ := hw_13
  try rw [show fF S_5 i 3 = fF S i 3 from Fr.F hF_8 (lt71 (by omega)) (fun q => by omega)] at hvz_19
  try rw [show fF S_5 i 0 = fF S i 0 from Fr.F hF_8 (lt71 (by omega)) (fun q => by omega)] at hvz_19
  subst hvz_19
  have eb_20 : EB z (([] ++ [50]) ++ [10]) S S_14 := eb_app eb_11 ez_10 (by omega) (by omega) (by simp only [List.length_append, List.length_cons, List.length_nil]; have := aL_len qz; have := bL_len qz; omega) hez_19
  refine lv_ineg hx hb (fk_get fk_cX2_asks_0 10 rfl) ?_
  subst hQ
  have hpost : XI S_14 ∧ Fr (fun j k => j = 61 ∨ (71 ≤ j ∧ (fK S j = 2 ∨ 71 + fC S ≤ j))) S S_14 ∧ (∀ j, j < 71 + fC S → ad_15 j = ad j) ∧ (∃ z', z' ≤ z + 2 ∧ fF S_14 61 2 = nI z') ∧ ((-(x + (fF S i 0))) : Int32) = -(x + ((fF S i 0))) ∧ EB z ([50, 10]) S S_14 := by
    exact ⟨hX_16, hF_17, hg_18, ⟨⟨_, by omega, ez_19⟩, by rfl, eb_20⟩⟩
  refine W.widen (k := 2) (n := 128) (by omega) (by omega) ?_
  exact W.iret (v := (-(x + (fF S i 0)))) hx hb hr (fun t_ ht_ hW_ => ⟨⟨(-(x + (fF S i 0))), (S_14, ad_15), rfl, hpost, by rw [ht_]; exact hP, va_K.moved hW_.alike hK, hD⟩, hS.F ht_⟩) hS.2.2 (fk_get fk_cX2_asks_0 11 rfl)
set_option maxHeartbeats 800000 in
set_option maxRecDepth 100000 in
theorem c_x10_asksE (l : Launch) (G : GG) (ad : Nat → Nat) (S : FS) (sz : Nat) (qz i z : Nat) (x : Int32) (hq : qz < 7) (hpk : pk i = 7) (hzz : fF S 61 2 = nI z) (hzN : z + 2 ≤ 40) (hX : XI S) : Met l yX10_asks (Cond.code yX10_asks cX10_asks 4 (some .int) :: TBL) ({ frames := 14, cells := 2, slots := 128, locals := 452 } : Room) (PcE G (wX G ad S) sz [.ref (ad (2 + qz)), .ref (ad i), .int (x), .ref (ad 61)]) (va_Qi (fun (r : Int32) (u : FS × (Nat → Nat)) => XI u.1 ∧ Fr (fun j k => j = 61 ∨ (71 ≤ j ∧ (fK S j = 2 ∨ 71 + fC S ≤ j))) S u.1 ∧ (∀ j, j < 71 + fC S → u.2 j = ad j) ∧ (∃ z', z' ≤ z + 2 ∧ fF u.1 61 2 = nI z') ∧ r = (x + ((fF S i 0))) ^^^ ((fF S i 3)) ∧ EB z ([71, 10]) S u.1) (fun u t => BW G (va_A (wX G ad S) sz) (wX G u.2 u.1) t) (va_A (wX G ad S) sz)) 2 128 (va_A (wX G ad S) sz) := by
  refine Met.ofW (cc := cX10_asks) (maxL := 4) (ret := (some .int)) (by decide) rfl ?_
  intro p e s m args below meth c₀ s₁ B hml hv
  obtain ⟨rfl, hsz, hP, hK, hD0, hE⟩ := hv
  have hx := B.exec
  have hb := B.bytes
  have hr := B.returns
  have hT : ∀ w ∈ TBL, w.before ([.ref (ad (2 + qz)), .ref (ad i), .int (x), .ref (ad 61)] : List Value).toArray s = true := fun w h => atoms_spec (ws := Cond.code yX10_asks cX10_asks 4 (some .int) :: TBL) B.pre w (List.mem_cons_of_mem _ h)
  have hown : s.vm.findClass "LittleMore$Told" = some m.cls := findClass_of_methodNamed B.named
  have hlocks := B.notSynchronized
  subst hsz
  have hD := hD0.self (sz := s.heap.size)
  generalize hAe : va_A (wX G ad S) s.heap.size = A at hD hE ⊢
  have hA : ∀ q : Nat, s.heap.size ≤ q → A q := fun q h => by rw [← hAe]; exact Or.inr h
  have hS : va_S A s.heap s.heap [] := va_S.rf
  have hP : va_P G.1 vwCl (wX G ad S) s.heap := hP
  have hl := lv_entry ([.ref (ad (2 + qz)), .ref (ad i), .int (x), .ref (ad 61)]) (n := 4) (Nat.le_of_ble_eq_true rfl)
  rw [lg_entry_eq]
  generalize (lg_sl ([.ref (ad (2 + qz)), .ref (ad i), .int (x), .ref (ad 61)]) ++ List.replicate (4 - (lg_sl ([.ref (ad (2 + qz)), .ref (ad i), .int (x), .ref (ad 61)])).length) Slot.unset).toArray = ls at hl ⊢
  have hl : lv_has ls 4 [(0, .ref (ad (2 + qz))), (1, .ref (ad i)), (2, .int (x)), (3, .ref (ad 61))] := hl
  refine W_abs (fun Q hQ => ?_)
  generalize ([.ref (ad (2 + qz)), .ref (ad i), .int (x), .ref (ad 61)] : List Value).toArray = args at hT hQ ⊢
  have hb_i := pk7 hpk
  obtain ⟨r_k, hr_k⟩ := kcl_at hq
  refine lv_aload_n hx hb (fk_get fk_cX10_asks_0 0 rfl) rfl (lv_at hl 3 rfl) ?_
  refine lv_bipush (v := 71) hx hb (fk_get fk_cX10_asks_0 1 rfl) (by decide) ?_
  have hFc := va_self hD hS hA
  refine va_csq (W.runS (As := [.int (71)]) (rest := [.ref (ad 61)]) ⟨hx, hb, hml, hown, hT⟩ (c_jvalueOf l G ad S s.heap.size (71) (by first | assumption | omega) (hX)) (tS 1 hT m4_217 m4_130 m1_26 m4_131 rfl rfl (by decide +kernel) ⟨Nat.le_of_ble_eq_true rfl, Nat.le_of_ble_eq_true rfl⟩) ⟨PcE_blind, PcE_of hP hK hD hE hS (fun q h => hFc q h) _⟩ rfl rfl hl.1 rfl (lv_room (Nat.le_of_ble_eq_true rfl)) (fk_get fk_cX10_asks_0 2 rfl) ⟨Nat.zero_le _, Nat.zero_le _⟩) (fun r_1 hw_2 => ?_)
  try dsimp only at hw_2
  obtain ⟨jb_3, hb_3, eb_3, rfl⟩ := hw_2
  rw [show va_rf (some (G.2.2.2 jb_3)) = .ref (G.2.2.2 jb_3) from rfl]
  have hFc := va_self hD hS hA
  refine va_calli (va_runV (As := [.ref (G.2.2.2 jb_3)]) (rest := []) ⟨hx, hb, hml, hown, hT⟩ (c_jadd l G ad S s.heap.size (z) (jb_3) (hzz) (by first | assumption | omega) (hb_3) (hX)) (tV 1 hT m4_218 m4_150 m4_151 m1_15 m4_152 rfl rfl (by decide +kernel) ⟨Nat.le_of_ble_eq_true rfl, Nat.le_of_ble_eq_true rfl⟩) ⟨PcE_blind, va_recv hK hP (ci := 1) (q0 := 61) rfl (ix_at (lt71 (by omega)) (cX_lst G ad S)), PcE_of hP hK hD hE hS (fun q h => hFc q h) _⟩ rfl rfl hl.1 rfl (lv_room (Nat.le_of_ble_eq_true rfl)) (fk_get fk_cX10_asks_0 3 rfl) ⟨Nat.le_of_ble_eq_true rfl, Nat.le_of_ble_eq_true rfl⟩) hS (fun q _ h => hFc q h) hFc (fun r_3 u_ t_ H locs ht_ hvm_ hw_4 hB_ hz_ hk_ hS => ?_)
  obtain ⟨S_5, ad_6⟩ := u_
  dsimp only at hB_ hw_4
  obtain ⟨hP, -, hD1_⟩ := hB_
  rw [ht_] at hP
  have hD : va_D A (wX G ad_6 S_5) := hD1_.weaken (fun k q _ h => hFc q.1 h)
  obtain ⟨hX_7, hF_8_, hg_9_, hw_4⟩ := hw_4
  have hg_9 : ∀ j, j < 71 + fC S → ad_6 j = ad j := fun j hj => (hg_9_ j (Nat.lt_of_lt_of_le hj (Nat.add_le_add_left ((Fr.rf : Fr (fun j k => j = 61 ∨ (71 ≤ j ∧ (fK S j = 2 ∨ 71 + fC S ≤ j))) S S)).1 71))).trans ((fun _ _ => rfl) j hj)
  have hF_8 : Fr (fun j k => j = 61 ∨ (71 ≤ j ∧ (fK S j = 2 ∨ 71 + fC S ≤ j))) S S_5 := Fr.tr (Fr.rf : Fr (fun j k => j = 61 ∨ (71 ≤ j ∧ (fK S j = 2 ∨ 71 + fC S ≤ j))) S S) hF_8_ (fun j k hj h => by have hc_ := ((Fr.rf : Fr (fun j k => j = 61 ∨ (71 ≤ j ∧ (fK S j = 2 ∨ 71 + fC S ≤ j))) S S)).1; have hk_ := Fr.K ((Fr.rf : Fr (fun j k => j = 61 ∨ (71 ≤ j ∧ (fK S j = 2 ∨ 71 + fC S ≤ j))) S S)) hj; omega)
  have hl : lv_has ls 4 [(0, .ref (ad_6 (2 + qz))), (1, .ref (ad_6 i)), (2, .int (x)), (3, .ref (ad_6 61))] := by rw [hg_9_ (2 + qz) ((lt71 (by omega))), hg_9_ i ((lt71 (by omega))), hg_9_ 61 ((lt71 (by omega)))]; exact hl
  obtain ⟨ez_10, hw_4_⟩ := hw_4
  have eb_11 : EB z ([] ++ [71]) S S_5 := eb_app (eb_0 hzz) hzz (by omega) (by omega) (by simp only [List.length_append, List.length_cons, List.length_nil]; have := aL_len qz; have := bL_len qz; omega) (eb_1 ez_10 hw_4_ eb_3)
  refine lv_pop hx hb (fk_get fk_cX10_asks_0 4 rfl) rfl ?_
  refine lv_aload_n hx hb (fk_get fk_cX10_asks_0 5 rfl) rfl (lv_at hl 0 rfl) ?_
  refine lv_aload_n hx hb (fk_get fk_cX10_asks_0 6 rfl) rfl (lv_at hl 1 rfl) ?_
  refine lv_iload_n hx hb (fk_get fk_cX10_asks_0 7 rfl) rfl (lv_at hl 2 rfl) ?_
  refine lv_aload_n hx hb (fk_get fk_cX10_asks_0 8 rfl) rfl (lv_at hl 3 rfl) ?_
  have hFc := va_self hD hS hA
  refine va_calli (sx_run (C := r_k.1) (As := [.ref (ad_6 i), .int (x), .ref (ad_6 61)]) (rest := []) (hK.1 (kcl qz) r_k hr_k).2 ⟨hx, hb, hml, hown, hT⟩ (c_x5_asks1E l G ad_6 S_5 H.size (qz) (i) ((z + 1)) (x) (hq) (hpk) (ez_10) (by first | assumption | omega) (hX_7)) (sx_of 3 hT m4_219 m4_220 m1_98 m1_74 m4_122 m1_2 m4_221 rfl rfl rfl (by decide +kernel) ⟨Nat.le_of_ble_eq_true rfl, Nat.le_of_ble_eq_true rfl⟩) ⟨PcE_blind, va_recv hK hP hr_k (ix_at (lt71 (by omega)) (cX_knd hq)), PcE_of hP hK hD hE hS (fun q h => hFc q h) _⟩ rfl rfl hl.1 rfl (lv_room (Nat.le_of_ble_eq_true rfl)) (fk_get fk_cX10_asks_0 9 rfl) ⟨(by show (0 + 1) + 1 ≤ 2; omega), (by show (0 + 64) + 64 ≤ 128; omega)⟩) hS (fun q _ h => hFc q h) hFc (fun r_12 u_ t_ H locs ht_ hvm_ hw_13 hB_ hz_ hk_ hS => ?_)
  obtain ⟨S_14, ad_15⟩ := u_
  dsimp only at hB_ hw_13
  obtain ⟨hP, -, hD1_⟩ := hB_
  rw [ht_] at hP
  have hD : va_D A (wX G ad_15 S_14) := hD1_.weaken (fun k q _ h => hFc q.1 h)
  obtain ⟨hX_16, hF_17_, hg_18_, hw_13⟩ := hw_13
  have hg_18 : ∀ j, j < 71 + fC S → ad_15 j = ad j := fun j hj => (hg_18_ j (Nat.lt_of_lt_of_le hj (Nat.add_le_add_left (hF_8).1 71))).trans (hg_9 j hj)
  have hF_17 : Fr (fun j k => j = 61 ∨ (71 ≤ j ∧ (fK S j = 2 ∨ 71 + fC S ≤ j))) S S_14 := Fr.tr hF_8 hF_17_ (fun j k hj h => by have hc_ := (hF_8).1; have hk_ := Fr.K hF_8 hj; omega)
  have hl : lv_has ls 4 [(0, .ref (ad_15 (2 + qz))), (1, .ref (ad_15 i)), (2, .int (x)), (3, .ref (ad_15 61))] := by rw [hg_18_ (2 + qz) ((lt71 (by omega))), hg_18_ i ((lt71 (by omega))), hg_18_ 61 ((lt71 (by omega)))]; exact hl
  obtain ⟨⟨z_19, bz_19, ez_19⟩, hvz_19, hez_19⟩ := hw_13
  try rw [show fF S_5 i 3 = fF S i 3 from Fr.F hF_8 (lt71 (by omega)) (fun q => by omega)] at hvz_19
  try rw [show fF S_5 i 0 = fF S i 0 from Fr.F hF_8 (lt71 (by omega)) (fun q => by omega)] at hvz_19
  subst hvz_19
  have eb_20 : EB z (([] ++ [71]) ++ [10]) S S_14 := eb_app eb_11 ez_10 (by omega) (by omega) (by simp only [List.length_append, List.length_cons, List.length_nil]; have := aL_len qz; have := bL_len qz; omega) hez_19
  refine lv_aload_n hx hb (fk_get fk_cX10_asks_0 10 rfl) rfl (lv_at hl 1 rfl) ?_
  refine va_get (D := G.1) (ci := 5) (v := .int (fF S_14 i 3)) (C := RX3) (T := TX3) (N := 10) hx hb hT inX3 hown hK hP i (ix_at (lt71 (by omega)) (cX_cust hpk)) rfl 3 (by decide) (hT _ m1_152) (fun _ h9 => h9) rfl (fk_get fk_cX10_asks_0 11 rfl) ?_
  have ff_21 : fF S_14 i 3 = fF S i 3 := Fr.F hF_17 (lt71 (by omega)) (fun q => by omega)
  refine lv_ixor hx hb (fk_get fk_cX10_asks_0 12 rfl) ?_
  subst hQ
  have hpost : XI S_14 ∧ Fr (fun j k => j = 61 ∨ (71 ≤ j ∧ (fK S j = 2 ∨ 71 + fC S ≤ j))) S S_14 ∧ (∀ j, j < 71 + fC S → ad_15 j = ad j) ∧ (∃ z', z' ≤ z + 2 ∧ fF S_14 61 2 = nI z') ∧ (((x + (fF S i 0)) ^^^ (fF S_14 i 3)) : Int32) = (x + ((fF S i 0))) ^^^ ((fF S i 3)) ∧ EB z ([71, 10]) S S_14 := by
    exact ⟨hX_16, hF_17, hg_18, ⟨⟨_, by omega, ez_19⟩, by first | rfl | rw [ff_21], eb_20⟩⟩
  refine W.widen (k := 2) (n := 128) (by omega) (by omega) ?_
  exact W.iret (v := ((x + (fF S i 0)) ^^^ (fF S_14 i 3))) hx hb hr (fun t_ ht_ hW_ => ⟨⟨((x + (fF S i 0)) ^^^ (fF S_14 i 3)), (S_14, ad_15), rfl, hpost, by rw [ht_]; exact hP, va_K.moved hW_.alike hK, hD⟩, hS.F ht_⟩) hS.2.2 (fk_get fk_cX10_asks_0 13 rfl)
set_option maxHeartbeats 800000 in
set_option maxRecDepth 100000 in
theorem c_x5_buys3E (l : Launch) (G : GG) (ad : Nat → Nat) (S : FS) (sz : Nat) (qz i z : Nat) (x : Int32) (hq : qz < 7) (hpk : pk i = 7) (hzz : fF S 61 2 = nI z) (hzN : z + 3 ≤ 40) (hX : XI S) : Met l yX5_buys (Cond.code yX5_buys cX5_buys 4 (some .int) :: TBL) ({ frames := 15, cells := 3, slots := 192, locals := 479 } : Room) (PcE G (wX G ad S) sz [.ref (ad (2 + qz)), .ref (ad i), .int (x), .ref (ad 61)]) (va_Qi (fun (r : Int32) (u : FS × (Nat → Nat)) => XI u.1 ∧ Fr (fun j k => j = 61 ∨ (71 ≤ j ∧ (fK S j = 2 ∨ 71 + fC S ≤ j))) S u.1 ∧ (∀ j, j < 71 + fC S → u.2 j = ad j) ∧ (∃ z', z' ≤ z + 3 ∧ fF u.1 61 2 = nI z') ∧ r = aV (nI qz) ((fF S i 3)) ((fF S i 0)) x - ((fF S i 3)) ∧ EB z ((11 :: aL qz)) S u.1) (fun u t => BW G (va_A (wX G ad S) sz) (wX G u.2 u.1) t) (va_A (wX G ad S) sz)) 3 192 (va_A (wX G ad S) sz) := by
  refine Met.ofW (cc := cX5_buys) (maxL := 4) (ret := (some .int)) (by decide) rfl ?_
  intro p e s m args below meth c₀ s₁ B hml hv
  obtain ⟨rfl, hsz, hP, hK, hD0, hE⟩ := hv
  have hx := B.exec
  have hb := B.bytes
  have hr := B.returns
  have hT : ∀ w ∈ TBL, w.before ([.ref (ad (2 + qz)), .ref (ad i), .int (x), .ref (ad 61)] : List Value).toArray s = true := fun w h => atoms_spec (ws := Cond.code yX5_buys cX5_buys 4 (some .int) :: TBL) B.pre w (List.mem_cons_of_mem _ h)
  have hown : s.vm.findClass "LittleMore$Kind" = some m.cls := findClass_of_methodNamed B.named
  have hlocks := B.notSynchronized
  subst hsz
  have hD := hD0.self (sz := s.heap.size)
  generalize hAe : va_A (wX G ad S) s.heap.size = A at hD hE ⊢
  have hA : ∀ q : Nat, s.heap.size ≤ q → A q := fun q h => by rw [← hAe]; exact Or.inr h
  have hS : va_S A s.heap s.heap [] := va_S.rf
  have hP : va_P G.1 vwCl (wX G ad S) s.heap := hP
  have hl := lv_entry ([.ref (ad (2 + qz)), .ref (ad i), .int (x), .ref (ad 61)]) (n := 4) (Nat.le_of_ble_eq_true rfl)
  rw [lg_entry_eq]
  generalize (lg_sl ([.ref (ad (2 + qz)), .ref (ad i), .int (x), .ref (ad 61)]) ++ List.replicate (4 - (lg_sl ([.ref (ad (2 + qz)), .ref (ad i), .int (x), .ref (ad 61)])).length) Slot.unset).toArray = ls at hl ⊢
  have hl : lv_has ls 4 [(0, .ref (ad (2 + qz))), (1, .ref (ad i)), (2, .int (x)), (3, .ref (ad 61))] := hl
  refine W_abs (fun Q hQ => ?_)
  generalize ([.ref (ad (2 + qz)), .ref (ad i), .int (x), .ref (ad 61)] : List Value).toArray = args at hT hQ ⊢
  have hb_i := pk7 hpk
  obtain ⟨r_k, hr_k⟩ := kcl_at hq
  refine lv_aload_n hx hb (fk_get fk_cX5_buys_0 0 rfl) rfl (lv_at hl 3 rfl) ?_
  refine lv_bipush (v := 11) hx hb (fk_get fk_cX5_buys_0 1 rfl) (by decide) ?_
  have hFc := va_self hD hS hA
  refine va_csq (W.runS (As := [.int (11)]) (rest := [.ref (ad 61)]) ⟨hx, hb, hml, hown, hT⟩ (c_jvalueOf l G ad S s.heap.size (11) (by first | assumption | omega) (hX)) (tS 1 hT m4_222 m4_130 m1_26 m4_131 rfl rfl (by decide +kernel) ⟨Nat.le_of_ble_eq_true rfl, Nat.le_of_ble_eq_true rfl⟩) ⟨PcE_blind, PcE_of hP hK hD hE hS (fun q h => hFc q h) _⟩ rfl rfl hl.1 rfl (lv_room (Nat.le_of_ble_eq_true rfl)) (fk_get fk_cX5_buys_0 2 rfl) ⟨Nat.zero_le _, Nat.zero_le _⟩) (fun r_1 hw_2 => ?_)
  try dsimp only at hw_2
  obtain ⟨jb_3, hb_3, eb_3, rfl⟩ := hw_2
  rw [show va_rf (some (G.2.2.2 jb_3)) = .ref (G.2.2.2 jb_3) from rfl]
  have hFc := va_self hD hS hA
  refine va_calli (va_runV (As := [.ref (G.2.2.2 jb_3)]) (rest := []) ⟨hx, hb, hml, hown, hT⟩ (c_jadd l G ad S s.heap.size (z) (jb_3) (hzz) (by first | assumption | omega) (hb_3) (hX)) (tV 1 hT m4_223 m4_150 m4_151 m1_15 m4_152 rfl rfl (by decide +kernel) ⟨Nat.le_of_ble_eq_true rfl, Nat.le_of_ble_eq_true rfl⟩) ⟨PcE_blind, va_recv hK hP (ci := 1) (q0 := 61) rfl (ix_at (lt71 (by omega)) (cX_lst G ad S)), PcE_of hP hK hD hE hS (fun q h => hFc q h) _⟩ rfl rfl hl.1 rfl (lv_room (Nat.le_of_ble_eq_true rfl)) (fk_get fk_cX5_buys_0 3 rfl) ⟨Nat.le_of_ble_eq_true rfl, Nat.le_of_ble_eq_true rfl⟩) hS (fun q _ h => hFc q h) hFc (fun r_3 u_ t_ H locs ht_ hvm_ hw_4 hB_ hz_ hk_ hS => ?_)
  obtain ⟨S_5, ad_6⟩ := u_
  dsimp only at hB_ hw_4
  obtain ⟨hP, -, hD1_⟩ := hB_
  rw [ht_] at hP
  have hD : va_D A (wX G ad_6 S_5) := hD1_.weaken (fun k q _ h => hFc q.1 h)
  obtain ⟨hX_7, hF_8_, hg_9_, hw_4⟩ := hw_4
  have hg_9 : ∀ j, j < 71 + fC S → ad_6 j = ad j := fun j hj => (hg_9_ j (Nat.lt_of_lt_of_le hj (Nat.add_le_add_left ((Fr.rf : Fr (fun j k => j = 61 ∨ (71 ≤ j ∧ (fK S j = 2 ∨ 71 + fC S ≤ j))) S S)).1 71))).trans ((fun _ _ => rfl) j hj)
  have hF_8 : Fr (fun j k => j = 61 ∨ (71 ≤ j ∧ (fK S j = 2 ∨ 71 + fC S ≤ j))) S S_5 := Fr.tr (Fr.rf : Fr (fun j k => j = 61 ∨ (71 ≤ j ∧ (fK S j = 2 ∨ 71 + fC S ≤ j))) S S) hF_8_ (fun j k hj h => by have hc_ := ((Fr.rf : Fr (fun j k => j = 61 ∨ (71 ≤ j ∧ (fK S j = 2 ∨ 71 + fC S ≤ j))) S S)).1; have hk_ := Fr.K ((Fr.rf : Fr (fun j k => j = 61 ∨ (71 ≤ j ∧ (fK S j = 2 ∨ 71 + fC S ≤ j))) S S)) hj; omega)
  have hl : lv_has ls 4 [(0, .ref (ad_6 (2 + qz))), (1, .ref (ad_6 i)), (2, .int (x)), (3, .ref (ad_6 61))] := by rw [hg_9_ (2 + qz) ((lt71 (by omega))), hg_9_ i ((lt71 (by omega))), hg_9_ 61 ((lt71 (by omega)))]; exact hl
  obtain ⟨ez_10, hw_4_⟩ := hw_4
  have eb_11 : EB z ([] ++ [11]) S S_5 := eb_app (eb_0 hzz) hzz (by omega) (by omega) (by simp only [List.length_append, List.length_cons, List.length_nil]; have := aL_len qz; have := bL_len qz; omega) (eb_1 ez_10 hw_4_ eb_3)
  refine lv_pop hx hb (fk_get fk_cX5_buys_0 4 rfl) rfl ?_
  refine lv_aload_n hx hb (fk_get fk_cX5_buys_0 5 rfl) rfl (lv_at hl 0 rfl) ?_
  refine lv_aload_n hx hb (fk_get fk_cX5_buys_0 6 rfl) rfl (lv_at hl 1 rfl) ?_
  refine lv_iload_n hx hb (fk_get fk_cX5_buys_0 7 rfl) rfl (lv_at hl 2 rfl) ?_
  refine lv_aload_n hx hb (fk_get fk_cX5_buys_0 8 rfl) rfl (lv_at hl 3 rfl) ?_
  have kk_k_12 : ∀ (rk_12 : Int32) (Sk_12 : FS) (adk_12 : Nat → Nat) (Hk_12 : Heap) (locsk_12 : List Loc) (zk_12 : Nat) (ls : Array Slot), XI Sk_12 → Fr (fun j k => j = 61 ∨ (71 ≤ j ∧ (fK S j = 2 ∨ 71 + fC S ≤ j))) S Sk_12 → (∀ j, j < 71 + fC S → adk_12 j = ad j) → zk_12 ≤ (z + 1) + 2 → fF Sk_12 61 2 = nI zk_12 → rk_12 = (aV (nI qz) (fF S i 3) (fF S i 0) x) → EB (z + 1) (aL qz) S_5 Sk_12 → va_P G.1 vwCl (wX G adk_12 Sk_12) Hk_12 → va_D A (wX G adk_12 Sk_12) → va_S A s.heap Hk_12 locsk_12 → lv_has ls 4 [(0, .ref (adk_12 (2 + qz))), (1, .ref (adk_12 i)), (2, .int (x)), (3, .ref (adk_12 61))] → W p l e ({ frames := 15, cells := 3, slots := 192, locals := 479 } : Room) s m args below meth c₀ Hk_12 locsk_12 ((0 + 1) + 2) ((0 + 64) + 128) Q (F0 m 17 ls [.int (rk_12)]) := by
    intro rk_12 Sk_12 adk_12 Hk_12 locsk_12 zk_12 ls hXk_12 hFk_12 hgk_12 bzk_12 ezk_12 hvk_12 hek_12 hP hD hS hl
    subst hvk_12
    have eb_13 : EB z (([] ++ [11]) ++ aL qz) S Sk_12 := eb_app eb_11 ez_10 (by omega) (by omega) (by simp only [List.length_append, List.length_cons, List.length_nil]; have := aL_len qz; have := bL_len qz; omega) hek_12
    refine lv_aload_n hx hb (fk_get fk_cX5_buys_0 10 rfl) rfl (lv_at hl 1 rfl) ?_
    refine va_get (D := G.1) (ci := 5) (v := .int (fF Sk_12 i 3)) (C := RX3) (T := TX3) (N := 10) hx hb hT inX3 hown hK hP i (ix_at (lt71 (by omega)) (cX_cust hpk)) rfl 3 (by decide) (hT _ m1_149) (fun _ h9 => h9) rfl (fk_get fk_cX5_buys_0 11 rfl) ?_
    have ff_14 : fF Sk_12 i 3 = fF S i 3 := Fr.F hFk_12 (lt71 (by omega)) (fun q => by omega)
    refine lv_isub hx hb (fk_get fk_cX5_buys_0 12 rfl) ?_
    subst hQ
    have hpost : XI Sk_12 ∧ Fr (fun j k => j = 61 ∨ (71 ≤ j ∧ (fK S j = 2 ∨ 71 + fC S ≤ j))) S Sk_12 ∧ (∀ j, j < 71 + fC S → adk_12 j = ad j) ∧ (∃ z', z' ≤ z + 3 ∧ fF Sk_12 61 2 = nI z') ∧ (((aV (nI qz) (fF S i 3) (fF S i 0) x) - (fF Sk_12 i 3)) : Int32) = aV (nI qz) ((fF S i 3)) ((fF S i 0)) x - ((fF S i 3)) ∧ EB z ((11 :: aL qz)) S Sk_12 := by
      exact ⟨hXk_12, hFk_12, hgk_12, ⟨⟨_, by omega, ezk_12⟩, by first | rfl | rw [ff_14], eb_13⟩⟩
    refine W.widen (k := 3) (n := 192) (by omega) (by omega) ?_
    exact W.iret (v := ((aV (nI qz) (fF S i 3) (fF S i 0) x) - (fF Sk_12 i 3))) hx hb hr (fun t_ ht_ hW_ => ⟨⟨((aV (nI qz) (fF S i 3) (fF S i 0) x) - (fF Sk_12 i 3)), (Sk_12, adk_12), rfl, hpost, by rw [ht_]; exact hP, va_K.moved hW_.alike hK, hD⟩, hS.F ht_⟩) hS.2.2 (fk_get fk_cX5_buys_0 13 rfl)
  have hFc := va_self hD hS hA
  rcases kq7 hq with rfl | rfl | rfl | rfl | rfl | rfl | rfl
  · refine va_calli (va_runU (As := [.ref (ad_6 i), .int (x), .ref (ad_6 61)]) (rest := []) ⟨hx, hb, hml, hown, hT⟩ (c_x5_asksE l G ad_6 S_5 H.size (0) (i) ((z + 1)) (x) ((by omega : 0 < 7)) (hpk) (ez_10) (by first | assumption | omega) (hX_7)) (tU 3 hT m5_8 m4_124 m4_123 m4_122 m1_2 m4_221 rfl rfl rfl (by decide +kernel) ⟨Nat.le_of_ble_eq_true rfl, Nat.le_of_ble_eq_true rfl⟩) ⟨PcE_blind, va_recv hK hP (ci := 7) (q0 := 2 + 0) rfl (ix_at (lt71 (by omega)) (cX_knd (by omega))), PcE_of hP hK hD hE hS (fun q h => hFc q h) _⟩ rfl rfl hl.1 rfl (lv_room (Nat.le_of_ble_eq_true rfl)) (fk_get fk_cX5_buys_0 9 rfl) ⟨(by show (0 + 1) + 2 ≤ 3; omega), (by show (0 + 64) + 128 ≤ 192; omega)⟩) hS (fun q _ h => hFc q h) hFc (fun r_ u_ t_ H locs ht_ hvm_ hw_ hB_ hz_ hk_ hS => ?_)
    obtain ⟨S1_, ad1_⟩ := u_
    dsimp only at hB_ hw_
    obtain ⟨hP, -, hD1_⟩ := hB_
    rw [ht_] at hP
    have hD : va_D A (wX G ad1_ S1_) := hD1_.weaken (fun k q _ h => hFc q.1 h)
    obtain ⟨hX1_, hF1_, hg1_, ⟨z1_, bz1_, ez1_⟩, hv1_, he1_⟩ := hw_
    try rw [show fF S_5 i 3 = fF S i 3 from Fr.F hF_8 (lt71 (by omega)) (fun q => by omega)] at hv1_
    try rw [show fF S_5 i 0 = fF S i 0 from Fr.F hF_8 (lt71 (by omega)) (fun q => by omega)] at hv1_
    have hl : lv_has ls 4 [(0, .ref (ad1_ (2 + 0))), (1, .ref (ad1_ i)), (2, .int (x)), (3, .ref (ad1_ 61))] := by rw [hg1_ (2 + 0) ((lt71 (by omega))), hg1_ i ((lt71 (by omega))), hg1_ 61 ((lt71 (by omega)))]; exact hl
    exact kk_k_12 r_ S1_ ad1_ H locs z1_ ls hX1_ (Fr.tr hF_8 hF1_ (fun j k hj h => by have hc_ := (hF_8).1; have hk_ := Fr.K hF_8 hj; omega)) (fun j hj => (hg1_ j (Nat.lt_of_lt_of_le hj (Nat.add_le_add_left (hF_8).1 71))).trans (hg_9 j hj)) (by omega) ez1_ (hv1_.trans (aV_0 _ _ _).symm) he1_ hP hD hS hl
  · refine va_calli (va_runU (As := [.ref (ad_6 i), .int (x), .ref (ad_6 61)]) (rest := []) ⟨hx, hb, hml, hown, hT⟩ (c_x5_asksE l G ad_6 S_5 H.size (1) (i) ((z + 1)) (x) ((by omega : 1 < 7)) (hpk) (ez_10) (by first | assumption | omega) (hX_7)) (tU 3 hT m5_8 m4_124 m4_213 m4_122 m1_2 m4_221 rfl rfl rfl (by decide +kernel) ⟨Nat.le_of_ble_eq_true rfl, Nat.le_of_ble_eq_true rfl⟩) ⟨PcE_blind, va_recv hK hP (ci := 10) (q0 := 2 + 1) rfl (ix_at (lt71 (by omega)) (cX_knd (by omega))), PcE_of hP hK hD hE hS (fun q h => hFc q h) _⟩ rfl rfl hl.1 rfl (lv_room (Nat.le_of_ble_eq_true rfl)) (fk_get fk_cX5_buys_0 9 rfl) ⟨(by show (0 + 1) + 2 ≤ 3; omega), (by show (0 + 64) + 128 ≤ 192; omega)⟩) hS (fun q _ h => hFc q h) hFc (fun r_ u_ t_ H locs ht_ hvm_ hw_ hB_ hz_ hk_ hS => ?_)
    obtain ⟨S1_, ad1_⟩ := u_
    dsimp only at hB_ hw_
    obtain ⟨hP, -, hD1_⟩ := hB_
    rw [ht_] at hP
    have hD : va_D A (wX G ad1_ S1_) := hD1_.weaken (fun k q _ h => hFc q.1 h)
    obtain ⟨hX1_, hF1_, hg1_, ⟨z1_, bz1_, ez1_⟩, hv1_, he1_⟩ := hw_
    try rw [show fF S_5 i 3 = fF S i 3 from Fr.F hF_8 (lt71 (by omega)) (fun q => by omega)] at hv1_
    try rw [show fF S_5 i 0 = fF S i 0 from Fr.F hF_8 (lt71 (by omega)) (fun q => by omega)] at hv1_
    have hl : lv_has ls 4 [(0, .ref (ad1_ (2 + 1))), (1, .ref (ad1_ i)), (2, .int (x)), (3, .ref (ad1_ 61))] := by rw [hg1_ (2 + 1) ((lt71 (by omega))), hg1_ i ((lt71 (by omega))), hg1_ 61 ((lt71 (by omega)))]; exact hl
    exact kk_k_12 r_ S1_ ad1_ H locs z1_ ls hX1_ (Fr.tr hF_8 hF1_ (fun j k hj h => by have hc_ := (hF_8).1; have hk_ := Fr.K hF_8 hj; omega)) (fun j hj => (hg1_ j (Nat.lt_of_lt_of_le hj (Nat.add_le_add_left (hF_8).1 71))).trans (hg_9 j hj)) (by omega) ez1_ (hv1_.trans (aV_1 _ _ _).symm) he1_ hP hD hS hl
  · refine va_calli (va_runU (As := [.ref (ad_6 i), .int (x), .ref (ad_6 61)]) (rest := []) ⟨hx, hb, hml, hown, hT⟩ (c_x4_asksE l G ad_6 S_5 H.size (2) (i) ((z + 1)) (x) ((by omega : 2 < 7)) (hpk) (ez_10) (by first | assumption | omega) (hX_7)) (tO 3 hT m5_8 m4_124 m4_122 m4_206 m4_207 m1_4 m4_208 m4_221 rfl rfl (by decide +kernel) ⟨Nat.le_of_ble_eq_true rfl, Nat.le_of_ble_eq_true rfl⟩) ⟨PcE_blind, va_recv hK hP (ci := 6) (q0 := 2 + 2) rfl (ix_at (lt71 (by omega)) (cX_knd (by omega))), PcE_of hP hK hD hE hS (fun q h => hFc q h) _⟩ rfl rfl hl.1 rfl (lv_room (Nat.le_of_ble_eq_true rfl)) (fk_get fk_cX5_buys_0 9 rfl) ⟨(by show (0 + 1) + 2 ≤ 3; omega), (by show (0 + 64) + 128 ≤ 192; omega)⟩) hS (fun q _ h => hFc q h) hFc (fun r_ u_ t_ H locs ht_ hvm_ hw_ hB_ hz_ hk_ hS => ?_)
    obtain ⟨S1_, ad1_⟩ := u_
    dsimp only at hB_ hw_
    obtain ⟨hP, -, hD1_⟩ := hB_
    rw [ht_] at hP
    have hD : va_D A (wX G ad1_ S1_) := hD1_.weaken (fun k q _ h => hFc q.1 h)
    obtain ⟨hX1_, hF1_, hg1_, ⟨z1_, bz1_, ez1_⟩, hv1_, he1_⟩ := hw_
    try rw [show fF S_5 i 3 = fF S i 3 from Fr.F hF_8 (lt71 (by omega)) (fun q => by omega)] at hv1_
    try rw [show fF S_5 i 0 = fF S i 0 from Fr.F hF_8 (lt71 (by omega)) (fun q => by omega)] at hv1_
    have hl : lv_has ls 4 [(0, .ref (ad1_ (2 + 2))), (1, .ref (ad1_ i)), (2, .int (x)), (3, .ref (ad1_ 61))] := by rw [hg1_ (2 + 2) ((lt71 (by omega))), hg1_ i ((lt71 (by omega))), hg1_ 61 ((lt71 (by omega)))]; exact hl
    exact kk_k_12 r_ S1_ ad1_ H locs z1_ ls hX1_ (Fr.tr hF_8 hF1_ (fun j k hj h => by have hc_ := (hF_8).1; have hk_ := Fr.K hF_8 hj; omega)) (fun j hj => (hg1_ j (Nat.lt_of_lt_of_le hj (Nat.add_le_add_left (hF_8).1 71))).trans (hg_9 j hj)) (by omega) ez1_ (hv1_.trans (aV_2 _ _ _).symm) he1_ hP hD hS hl
  · refine va_calli (va_runU (As := [.ref (ad_6 i), .int (x), .ref (ad_6 61)]) (rest := []) ⟨hx, hb, hml, hown, hT⟩ (c_x5_asksE l G ad_6 S_5 H.size (3) (i) ((z + 1)) (x) ((by omega : 3 < 7)) (hpk) (ez_10) (by first | assumption | omega) (hX_7)) (tU 3 hT m5_8 m4_124 m4_125 m4_122 m1_2 m4_221 rfl rfl rfl (by decide +kernel) ⟨Nat.le_of_ble_eq_true rfl, Nat.le_of_ble_eq_true rfl⟩) ⟨PcE_blind, va_recv hK hP (ci := 2) (q0 := 2 + 3) rfl (ix_at (lt71 (by omega)) (cX_knd (by omega))), PcE_of hP hK hD hE hS (fun q h => hFc q h) _⟩ rfl rfl hl.1 rfl (lv_room (Nat.le_of_ble_eq_true rfl)) (fk_get fk_cX5_buys_0 9 rfl) ⟨(by show (0 + 1) + 2 ≤ 3; omega), (by show (0 + 64) + 128 ≤ 192; omega)⟩) hS (fun q _ h => hFc q h) hFc (fun r_ u_ t_ H locs ht_ hvm_ hw_ hB_ hz_ hk_ hS => ?_)
    obtain ⟨S1_, ad1_⟩ := u_
    dsimp only at hB_ hw_
    obtain ⟨hP, -, hD1_⟩ := hB_
    rw [ht_] at hP
    have hD : va_D A (wX G ad1_ S1_) := hD1_.weaken (fun k q _ h => hFc q.1 h)
    obtain ⟨hX1_, hF1_, hg1_, ⟨z1_, bz1_, ez1_⟩, hv1_, he1_⟩ := hw_
    try rw [show fF S_5 i 3 = fF S i 3 from Fr.F hF_8 (lt71 (by omega)) (fun q => by omega)] at hv1_
    try rw [show fF S_5 i 0 = fF S i 0 from Fr.F hF_8 (lt71 (by omega)) (fun q => by omega)] at hv1_
    have hl : lv_has ls 4 [(0, .ref (ad1_ (2 + 3))), (1, .ref (ad1_ i)), (2, .int (x)), (3, .ref (ad1_ 61))] := by rw [hg1_ (2 + 3) ((lt71 (by omega))), hg1_ i ((lt71 (by omega))), hg1_ 61 ((lt71 (by omega)))]; exact hl
    exact kk_k_12 r_ S1_ ad1_ H locs z1_ ls hX1_ (Fr.tr hF_8 hF1_ (fun j k hj h => by have hc_ := (hF_8).1; have hk_ := Fr.K hF_8 hj; omega)) (fun j hj => (hg1_ j (Nat.lt_of_lt_of_le hj (Nat.add_le_add_left (hF_8).1 71))).trans (hg_9 j hj)) (by omega) ez1_ (hv1_.trans (aV_3 _ _ _).symm) he1_ hP hD hS hl
  · refine va_calli (va_runU (As := [.ref (ad_6 i), .int (x), .ref (ad_6 61)]) (rest := []) ⟨hx, hb, hml, hown, hT⟩ (c_x2_asksE l G ad_6 S_5 H.size (4) (i) ((z + 1)) (x) ((by omega : 4 < 7)) (hpk) (ez_10) (by first | assumption | omega) (hX_7)) (tO 3 hT m5_8 m4_124 m4_122 m4_126 m4_127 m1_6 m4_128 m4_221 rfl rfl (by decide +kernel) ⟨Nat.le_of_ble_eq_true rfl, Nat.le_of_ble_eq_true rfl⟩) ⟨PcE_blind, va_recv hK hP (ci := 4) (q0 := 2 + 4) rfl (ix_at (lt71 (by omega)) (cX_knd (by omega))), PcE_of hP hK hD hE hS (fun q h => hFc q h) _⟩ rfl rfl hl.1 rfl (lv_room (Nat.le_of_ble_eq_true rfl)) (fk_get fk_cX5_buys_0 9 rfl) ⟨(by show (0 + 1) + 2 ≤ 3; omega), (by show (0 + 64) + 128 ≤ 192; omega)⟩) hS (fun q _ h => hFc q h) hFc (fun r_ u_ t_ H locs ht_ hvm_ hw_ hB_ hz_ hk_ hS => ?_)
    obtain ⟨S1_, ad1_⟩ := u_
    dsimp only at hB_ hw_
    obtain ⟨hP, -, hD1_⟩ := hB_
    rw [ht_] at hP
    have hD : va_D A (wX G ad1_ S1_) := hD1_.weaken (fun k q _ h => hFc q.1 h)
    obtain ⟨hX1_, hF1_, hg1_, ⟨z1_, bz1_, ez1_⟩, hv1_, he1_⟩ := hw_
    try rw [show fF S_5 i 3 = fF S i 3 from Fr.F hF_8 (lt71 (by omega)) (fun q => by omega)] at hv1_
    try rw [show fF S_5 i 0 = fF S i 0 from Fr.F hF_8 (lt71 (by omega)) (fun q => by omega)] at hv1_
    have hl : lv_has ls 4 [(0, .ref (ad1_ (2 + 4))), (1, .ref (ad1_ i)), (2, .int (x)), (3, .ref (ad1_ 61))] := by rw [hg1_ (2 + 4) ((lt71 (by omega))), hg1_ i ((lt71 (by omega))), hg1_ 61 ((lt71 (by omega)))]; exact hl
    exact kk_k_12 r_ S1_ ad1_ H locs z1_ ls hX1_ (Fr.tr hF_8 hF1_ (fun j k hj h => by have hc_ := (hF_8).1; have hk_ := Fr.K hF_8 hj; omega)) (fun j hj => (hg1_ j (Nat.lt_of_lt_of_le hj (Nat.add_le_add_left (hF_8).1 71))).trans (hg_9 j hj)) (by omega) ez1_ (hv1_.trans (aV_4 _ _ _).symm) he1_ hP hD hS hl
  · refine va_calli (va_runU (As := [.ref (ad_6 i), .int (x), .ref (ad_6 61)]) (rest := []) ⟨hx, hb, hml, hown, hT⟩ (c_x4_asksE l G ad_6 S_5 H.size (5) (i) ((z + 1)) (x) ((by omega : 5 < 7)) (hpk) (ez_10) (by first | assumption | omega) (hX_7)) (tO 3 hT m5_8 m4_124 m4_122 m4_212 m4_207 m1_4 m4_208 m4_221 rfl rfl (by decide +kernel) ⟨Nat.le_of_ble_eq_true rfl, Nat.le_of_ble_eq_true rfl⟩) ⟨PcE_blind, va_recv hK hP (ci := 8) (q0 := 2 + 5) rfl (ix_at (lt71 (by omega)) (cX_knd (by omega))), PcE_of hP hK hD hE hS (fun q h => hFc q h) _⟩ rfl rfl hl.1 rfl (lv_room (Nat.le_of_ble_eq_true rfl)) (fk_get fk_cX5_buys_0 9 rfl) ⟨(by show (0 + 1) + 2 ≤ 3; omega), (by show (0 + 64) + 128 ≤ 192; omega)⟩) hS (fun q _ h => hFc q h) hFc (fun r_ u_ t_ H locs ht_ hvm_ hw_ hB_ hz_ hk_ hS => ?_)
    obtain ⟨S1_, ad1_⟩ := u_
    dsimp only at hB_ hw_
    obtain ⟨hP, -, hD1_⟩ := hB_
    rw [ht_] at hP
    have hD : va_D A (wX G ad1_ S1_) := hD1_.weaken (fun k q _ h => hFc q.1 h)
    obtain ⟨hX1_, hF1_, hg1_, ⟨z1_, bz1_, ez1_⟩, hv1_, he1_⟩ := hw_
    try rw [show fF S_5 i 3 = fF S i 3 from Fr.F hF_8 (lt71 (by omega)) (fun q => by omega)] at hv1_
    try rw [show fF S_5 i 0 = fF S i 0 from Fr.F hF_8 (lt71 (by omega)) (fun q => by omega)] at hv1_
    have hl : lv_has ls 4 [(0, .ref (ad1_ (2 + 5))), (1, .ref (ad1_ i)), (2, .int (x)), (3, .ref (ad1_ 61))] := by rw [hg1_ (2 + 5) ((lt71 (by omega))), hg1_ i ((lt71 (by omega))), hg1_ 61 ((lt71 (by omega)))]; exact hl
    exact kk_k_12 r_ S1_ ad1_ H locs z1_ ls hX1_ (Fr.tr hF_8 hF1_ (fun j k hj h => by have hc_ := (hF_8).1; have hk_ := Fr.K hF_8 hj; omega)) (fun j hj => (hg1_ j (Nat.lt_of_lt_of_le hj (Nat.add_le_add_left (hF_8).1 71))).trans (hg_9 j hj)) (by omega) ez1_ (hv1_.trans (aV_5 _ _ _).symm) he1_ hP hD hS hl
  · refine va_calli (va_runU (As := [.ref (ad_6 i), .int (x), .ref (ad_6 61)]) (rest := []) ⟨hx, hb, hml, hown, hT⟩ (c_x10_asksE l G ad_6 S_5 H.size (6) (i) ((z + 1)) (x) ((by omega : 6 < 7)) (hpk) (ez_10) (by first | assumption | omega) (hX_7)) (tO 3 hT m5_8 m4_124 m4_122 m4_214 m4_215 m1_8 m4_216 m4_221 rfl rfl (by decide +kernel) ⟨Nat.le_of_ble_eq_true rfl, Nat.le_of_ble_eq_true rfl⟩) ⟨PcE_blind, va_recv hK hP (ci := 12) (q0 := 2 + 6) rfl (ix_at (lt71 (by omega)) (cX_knd (by omega))), PcE_of hP hK hD hE hS (fun q h => hFc q h) _⟩ rfl rfl hl.1 rfl (lv_room (Nat.le_of_ble_eq_true rfl)) (fk_get fk_cX5_buys_0 9 rfl) ⟨(by show (0 + 1) + 2 ≤ 3; omega), (by show (0 + 64) + 128 ≤ 192; omega)⟩) hS (fun q _ h => hFc q h) hFc (fun r_ u_ t_ H locs ht_ hvm_ hw_ hB_ hz_ hk_ hS => ?_)
    obtain ⟨S1_, ad1_⟩ := u_
    dsimp only at hB_ hw_
    obtain ⟨hP, -, hD1_⟩ := hB_
    rw [ht_] at hP
    have hD : va_D A (wX G ad1_ S1_) := hD1_.weaken (fun k q _ h => hFc q.1 h)
    obtain ⟨hX1_, hF1_, hg1_, ⟨z1_, bz1_, ez1_⟩, hv1_, he1_⟩ := hw_
    try rw [show fF S_5 i 3 = fF S i 3 from Fr.F hF_8 (lt71 (by omega)) (fun q => by omega)] at hv1_
    try rw [show fF S_5 i 0 = fF S i 0 from Fr.F hF_8 (lt71 (by omega)) (fun q => by omega)] at hv1_
    have hl : lv_has ls 4 [(0, .ref (ad1_ (2 + 6))), (1, .ref (ad1_ i)), (2, .int (x)), (3, .ref (ad1_ 61))] := by rw [hg1_ (2 + 6) ((lt71 (by omega))), hg1_ i ((lt71 (by omega))), hg1_ 61 ((lt71 (by omega)))]; exact hl
    exact kk_k_12 r_ S1_ ad1_ H locs z1_ ls hX1_ (Fr.tr hF_8 hF1_ (fun j k hj h => by have hc_ := (hF_8).1; have hk_ := Fr.K hF_8 hj; omega)) (fun j hj => (hg1_ j (Nat.lt_of_lt_of_le hj (Nat.add_le_add_left (hF_8).1 71))).trans (hg_9 j hj)) (by omega) ez1_ (hv1_.trans (aV_6 _ _ _).symm) he1_ hP hD hS hl
set_option maxHeartbeats 800000 in
set_option maxRecDepth 100000 in
theorem c_x5_buysE (l : Launch) (G : GG) (ad : Nat → Nat) (S : FS) (sz : Nat) (qz i z : Nat) (x : Int32) (hq : qz < 7) (hpk : pk i = 7) (hzz : fF S 61 2 = nI z) (hzN : z + 5 ≤ 40) (hX : XI S) : Met l yX5_buys (Cond.code yX5_buys cX5_buys 4 (some .int) :: TBL) ({ frames := 15, cells := 5, slots := 320, locals := 479 } : Room) (PcE G (wX G ad S) sz [.ref (ad (2 + qz)), .ref (ad i), .int (x), .ref (ad 61)]) (va_Qi (fun (r : Int32) (u : FS × (Nat → Nat)) => XI u.1 ∧ Fr (fun j k => j = 61 ∨ (71 ≤ j ∧ (fK S j = 2 ∨ 71 + fC S ≤ j))) S u.1 ∧ (∀ j, j < 71 + fC S → u.2 j = ad j) ∧ (∃ z', z' ≤ z + 5 ∧ fF u.1 61 2 = nI z') ∧ r = aV (nI qz) ((fF S i 3)) ((fF S i 0)) x - ((fF S i 3)) ∧ EB z ((11 :: aL qz)) S u.1) (fun u t => BW G (va_A (wX G ad S) sz) (wX G u.2 u.1) t) (va_A (wX G ad S) sz)) 5 320 (va_A (wX G ad S) sz) := by
  refine Met.ofW (cc := cX5_buys) (maxL := 4) (ret := (some .int)) (by decide) rfl ?_
  intro p e s m args below meth c₀ s₁ B hml hv
  obtain ⟨rfl, hsz, hP, hK, hD0, hE⟩ := hv
  have hx := B.exec
  have hb := B.bytes
  have hr := B.returns
  have hT : ∀ w ∈ TBL, w.before ([.ref (ad (2 + qz)), .ref (ad i), .int (x), .ref (ad 61)] : List Value).toArray s = true := fun w h => atoms_spec (ws := Cond.code yX5_buys cX5_buys 4 (some .int) :: TBL) B.pre w (List.mem_cons_of_mem _ h)
  have hown : s.vm.findClass "LittleMore$Kind" = some m.cls := findClass_of_methodNamed B.named
  have hlocks := B.notSynchronized
  subst hsz
  have hD := hD0.self (sz := s.heap.size)
  generalize hAe : va_A (wX G ad S) s.heap.size = A at hD hE ⊢
  have hA : ∀ q : Nat, s.heap.size ≤ q → A q := fun q h => by rw [← hAe]; exact Or.inr h
  have hS : va_S A s.heap s.heap [] := va_S.rf
  have hP : va_P G.1 vwCl (wX G ad S) s.heap := hP
  have hl := lv_entry ([.ref (ad (2 + qz)), .ref (ad i), .int (x), .ref (ad 61)]) (n := 4) (Nat.le_of_ble_eq_true rfl)
  rw [lg_entry_eq]
  generalize (lg_sl ([.ref (ad (2 + qz)), .ref (ad i), .int (x), .ref (ad 61)]) ++ List.replicate (4 - (lg_sl ([.ref (ad (2 + qz)), .ref (ad i), .int (x), .ref (ad 61)])).length) Slot.unset).toArray = ls at hl ⊢
  have hl : lv_has ls 4 [(0, .ref (ad (2 + qz))), (1, .ref (ad i)), (2, .int (x)), (3, .ref (ad 61))] := hl
  refine W_abs (fun Q hQ => ?_)
  generalize ([.ref (ad (2 + qz)), .ref (ad i), .int (x), .ref (ad 61)] : List Value).toArray = args at hT hQ ⊢
  have hb_i := pk7 hpk
  obtain ⟨r_k, hr_k⟩ := kcl_at hq
  refine lv_aload_n hx hb (fk_get fk_cX5_buys_0 0 rfl) rfl (lv_at hl 3 rfl) ?_
  refine lv_bipush (v := 11) hx hb (fk_get fk_cX5_buys_0 1 rfl) (by decide) ?_
  have hFc := va_self hD hS hA
  refine va_csq (W.runS (As := [.int (11)]) (rest := [.ref (ad 61)]) ⟨hx, hb, hml, hown, hT⟩ (c_jvalueOf l G ad S s.heap.size (11) (by first | assumption | omega) (hX)) (tS 1 hT m4_222 m4_130 m1_26 m4_131 rfl rfl (by decide +kernel) ⟨Nat.le_of_ble_eq_true rfl, Nat.le_of_ble_eq_true rfl⟩) ⟨PcE_blind, PcE_of hP hK hD hE hS (fun q h => hFc q h) _⟩ rfl rfl hl.1 rfl (lv_room (Nat.le_of_ble_eq_true rfl)) (fk_get fk_cX5_buys_0 2 rfl) ⟨Nat.zero_le _, Nat.zero_le _⟩) (fun r_1 hw_2 => ?_)
  try dsimp only at hw_2
  obtain ⟨jb_3, hb_3, eb_3, rfl⟩ := hw_2
  rw [show va_rf (some (G.2.2.2 jb_3)) = .ref (G.2.2.2 jb_3) from rfl]
  have hFc := va_self hD hS hA
  refine va_calli (va_runV (As := [.ref (G.2.2.2 jb_3)]) (rest := []) ⟨hx, hb, hml, hown, hT⟩ (c_jadd l G ad S s.heap.size (z) (jb_3) (hzz) (by first | assumption | omega) (hb_3) (hX)) (tV 1 hT m4_223 m4_150 m4_151 m1_15 m4_152 rfl rfl (by decide +kernel) ⟨Nat.le_of_ble_eq_true rfl, Nat.le_of_ble_eq_true rfl⟩) ⟨PcE_blind, va_recv hK hP (ci := 1) (q0 := 61) rfl (ix_at (lt71 (by omega)) (cX_lst G ad S)), PcE_of hP hK hD hE hS (fun q h => hFc q h) _⟩ rfl rfl hl.1 rfl (lv_room (Nat.le_of_ble_eq_true rfl)) (fk_get fk_cX5_buys_0 3 rfl) ⟨Nat.le_of_ble_eq_true rfl, Nat.le_of_ble_eq_true rfl⟩) hS (fun q _ h => hFc q h) hFc (fun r_3 u_ t_ H locs ht_ hvm_ hw_4 hB_ hz_ hk_ hS => ?_)
  obtain ⟨S_5, ad_6⟩ := u_
  dsimp only at hB_ hw_4
  obtain ⟨hP, -, hD1_⟩ := hB_
  rw [ht_] at hP
  have hD : va_D A (wX G ad_6 S_5) := hD1_.weaken (fun k q _ h => hFc q.1 h)
  obtain ⟨hX_7, hF_8_, hg_9_, hw_4⟩ := hw_4
  have hg_9 : ∀ j, j < 71 + fC S → ad_6 j = ad j := fun j hj => (hg_9_ j (Nat.lt_of_lt_of_le hj (Nat.add_le_add_left ((Fr.rf : Fr (fun j k => j = 61 ∨ (71 ≤ j ∧ (fK S j = 2 ∨ 71 + fC S ≤ j))) S S)).1 71))).trans ((fun _ _ => rfl) j hj)
  have hF_8 : Fr (fun j k => j = 61 ∨ (71 ≤ j ∧ (fK S j = 2 ∨ 71 + fC S ≤ j))) S S_5 := Fr.tr (Fr.rf : Fr (fun j k => j = 61 ∨ (71 ≤ j ∧ (fK S j = 2 ∨ 71 + fC S ≤ j))) S S) hF_8_ (fun j k hj h => by have hc_ := ((Fr.rf : Fr (fun j k => j = 61 ∨ (71 ≤ j ∧ (fK S j = 2 ∨ 71 + fC S ≤ j))) S S)).1; have hk_ := Fr.K ((Fr.rf : Fr (fun j k => j = 61 ∨ (71 ≤ j ∧ (fK S j = 2 ∨ 71 + fC S ≤ j))) S S)) hj; omega)
  have hl : lv_has ls 4 [(0, .ref (ad_6 (2 + qz))), (1, .ref (ad_6 i)), (2, .int (x)), (3, .ref (ad_6 61))] := by rw [hg_9_ (2 + qz) ((lt71 (by omega))), hg_9_ i ((lt71 (by omega))), hg_9_ 61 ((lt71 (by omega)))]; exact hl
  obtain ⟨ez_10, hw_4_⟩ := hw_4
  have eb_11 : EB z ([] ++ [11]) S S_5 := eb_app (eb_0 hzz) hzz (by omega) (by omega) (by simp only [List.length_append, List.length_cons, List.length_nil]; have := aL_len qz; have := bL_len qz; omega) (eb_1 ez_10 hw_4_ eb_3)
  refine lv_pop hx hb (fk_get fk_cX5_buys_0 4 rfl) rfl ?_
  refine lv_aload_n hx hb (fk_get fk_cX5_buys_0 5 rfl) rfl (lv_at hl 0 rfl) ?_
  refine lv_aload_n hx hb (fk_get fk_cX5_buys_0 6 rfl) rfl (lv_at hl 1 rfl) ?_
  refine lv_iload_n hx hb (fk_get fk_cX5_buys_0 7 rfl) rfl (lv_at hl 2 rfl) ?_
  refine lv_aload_n hx hb (fk_get fk_cX5_buys_0 8 rfl) rfl (lv_at hl 3 rfl) ?_
  have kk_k_12 : ∀ (rk_12 : Int32) (Sk_12 : FS) (adk_12 : Nat → Nat) (Hk_12 : Heap) (locsk_12 : List Loc) (zk_12 : Nat) (ls : Array Slot), XI Sk_12 → Fr (fun j k => j = 61 ∨ (71 ≤ j ∧ (fK S j = 2 ∨ 71 + fC S ≤ j))) S Sk_12 → (∀ j, j < 71 + fC S → adk_12 j = ad j) → zk_12 ≤ (z + 1) + 2 → fF Sk_12 61 2 = nI zk_12 → rk_12 = (aV (nI qz) (fF S i 3) (fF S i 0) x) → EB (z + 1) (aL qz) S_5 Sk_12 → va_P G.1 vwCl (wX G adk_12 Sk_12) Hk_12 → va_D A (wX G adk_12 Sk_12) → va_S A s.heap Hk_12 locsk_12 → lv_has ls 4 [(0, .ref (adk_12 (2 + qz))), (1, .ref (adk_12 i)), (2, .int (x)), (3, .ref (adk_12 61))] → W p l e ({ frames := 15, cells := 5, slots := 320, locals := 479 } : Room) s m args below meth c₀ Hk_12 locsk_12 ((0 + 1) + 2) ((0 + 64) + 128) Q (F0 m 17 ls [.int (rk_12)]) := by
    intro rk_12 Sk_12 adk_12 Hk_12 locsk_12 zk_12 ls hXk_12 hFk_12 hgk_12 bzk_12 ezk_12 hvk_12 hek_12 hP hD hS hl
    subst hvk_12
    have eb_13 : EB z (([] ++ [11]) ++ aL qz) S Sk_12 := eb_app eb_11 ez_10 (by omega) (by omega) (by simp only [List.length_append, List.length_cons, List.length_nil]; have := aL_len qz; have := bL_len qz; omega) hek_12
    refine lv_aload_n hx hb (fk_get fk_cX5_buys_0 10 rfl) rfl (lv_at hl 1 rfl) ?_
    refine va_get (D := G.1) (ci := 5) (v := .int (fF Sk_12 i 3)) (C := RX3) (T := TX3) (N := 10) hx hb hT inX3 hown hK hP i (ix_at (lt71 (by omega)) (cX_cust hpk)) rfl 3 (by decide) (hT _ m1_149) (fun _ h9 => h9) rfl (fk_get fk_cX5_buys_0 11 rfl) ?_
    have ff_14 : fF Sk_12 i 3 = fF S i 3 := Fr.F hFk_12 (lt71 (by omega)) (fun q => by omega)
    refine lv_isub hx hb (fk_get fk_cX5_buys_0 12 rfl) ?_
    subst hQ
    have hpost : XI Sk_12 ∧ Fr (fun j k => j = 61 ∨ (71 ≤ j ∧ (fK S j = 2 ∨ 71 + fC S ≤ j))) S Sk_12 ∧ (∀ j, j < 71 + fC S → adk_12 j = ad j) ∧ (∃ z', z' ≤ z + 5 ∧ fF Sk_12 61 2 = nI z') ∧ (((aV (nI qz) (fF S i 3) (fF S i 0) x) - (fF Sk_12 i 3)) : Int32) = aV (nI qz) ((fF S i 3)) ((fF S i 0)) x - ((fF S i 3)) ∧ EB z ((11 :: aL qz)) S Sk_12 := by
      exact ⟨hXk_12, hFk_12, hgk_12, ⟨⟨_, by omega, ezk_12⟩, by first | rfl | rw [ff_14], eb_13⟩⟩
    refine W.widen (k := 5) (n := 320) (by omega) (by omega) ?_
    exact W.iret (v := ((aV (nI qz) (fF S i 3) (fF S i 0) x) - (fF Sk_12 i 3))) hx hb hr (fun t_ ht_ hW_ => ⟨⟨((aV (nI qz) (fF S i 3) (fF S i 0) x) - (fF Sk_12 i 3)), (Sk_12, adk_12), rfl, hpost, by rw [ht_]; exact hP, va_K.moved hW_.alike hK, hD⟩, hS.F ht_⟩) hS.2.2 (fk_get fk_cX5_buys_0 13 rfl)
  have hFc := va_self hD hS hA
  rcases kq7 hq with rfl | rfl | rfl | rfl | rfl | rfl | rfl
  · refine va_calli (va_runU (As := [.ref (ad_6 i), .int (x), .ref (ad_6 61)]) (rest := []) ⟨hx, hb, hml, hown, hT⟩ (c_x5_asksE l G ad_6 S_5 H.size (0) (i) ((z + 1)) (x) ((by omega : 0 < 7)) (hpk) (ez_10) (by first | assumption | omega) (hX_7)) (tU 3 hT m5_8 m4_124 m4_123 m4_122 m1_2 m4_221 rfl rfl rfl (by decide +kernel) ⟨Nat.le_of_ble_eq_true rfl, Nat.le_of_ble_eq_true rfl⟩) ⟨PcE_blind, va_recv hK hP (ci := 7) (q0 := 2 + 0) rfl (ix_at (lt71 (by omega)) (cX_knd (by omega))), PcE_of hP hK hD hE hS (fun q h => hFc q h) _⟩ rfl rfl hl.1 rfl (lv_room (Nat.le_of_ble_eq_true rfl)) (fk_get fk_cX5_buys_0 9 rfl) ⟨(by show (0 + 1) + 2 ≤ 5; omega), (by show (0 + 64) + 128 ≤ 320; omega)⟩) hS (fun q _ h => hFc q h) hFc (fun r_ u_ t_ H locs ht_ hvm_ hw_ hB_ hz_ hk_ hS => ?_)
    obtain ⟨S1_, ad1_⟩ := u_
    dsimp only at hB_ hw_
    obtain ⟨hP, -, hD1_⟩ := hB_
    rw [ht_] at hP
    have hD : va_D A (wX G ad1_ S1_) := hD1_.weaken (fun k q _ h => hFc q.1 h)
    obtain ⟨hX1_, hF1_, hg1_, ⟨z1_, bz1_, ez1_⟩, hv1_, he1_⟩ := hw_
    try rw [show fF S_5 i 3 = fF S i 3 from Fr.F hF_8 (lt71 (by omega)) (fun q => by omega)] at hv1_
    try rw [show fF S_5 i 0 = fF S i 0 from Fr.F hF_8 (lt71 (by omega)) (fun q => by omega)] at hv1_
    have hl : lv_has ls 4 [(0, .ref (ad1_ (2 + 0))), (1, .ref (ad1_ i)), (2, .int (x)), (3, .ref (ad1_ 61))] := by rw [hg1_ (2 + 0) ((lt71 (by omega))), hg1_ i ((lt71 (by omega))), hg1_ 61 ((lt71 (by omega)))]; exact hl
    exact kk_k_12 r_ S1_ ad1_ H locs z1_ ls hX1_ (Fr.tr hF_8 hF1_ (fun j k hj h => by have hc_ := (hF_8).1; have hk_ := Fr.K hF_8 hj; omega)) (fun j hj => (hg1_ j (Nat.lt_of_lt_of_le hj (Nat.add_le_add_left (hF_8).1 71))).trans (hg_9 j hj)) (by omega) ez1_ (hv1_.trans (aV_0 _ _ _).symm) he1_ hP hD hS hl
  · refine va_calli (va_runU (As := [.ref (ad_6 i), .int (x), .ref (ad_6 61)]) (rest := []) ⟨hx, hb, hml, hown, hT⟩ (c_x5_asksE l G ad_6 S_5 H.size (1) (i) ((z + 1)) (x) ((by omega : 1 < 7)) (hpk) (ez_10) (by first | assumption | omega) (hX_7)) (tU 3 hT m5_8 m4_124 m4_213 m4_122 m1_2 m4_221 rfl rfl rfl (by decide +kernel) ⟨Nat.le_of_ble_eq_true rfl, Nat.le_of_ble_eq_true rfl⟩) ⟨PcE_blind, va_recv hK hP (ci := 10) (q0 := 2 + 1) rfl (ix_at (lt71 (by omega)) (cX_knd (by omega))), PcE_of hP hK hD hE hS (fun q h => hFc q h) _⟩ rfl rfl hl.1 rfl (lv_room (Nat.le_of_ble_eq_true rfl)) (fk_get fk_cX5_buys_0 9 rfl) ⟨(by show (0 + 1) + 2 ≤ 5; omega), (by show (0 + 64) + 128 ≤ 320; omega)⟩) hS (fun q _ h => hFc q h) hFc (fun r_ u_ t_ H locs ht_ hvm_ hw_ hB_ hz_ hk_ hS => ?_)
    obtain ⟨S1_, ad1_⟩ := u_
    dsimp only at hB_ hw_
    obtain ⟨hP, -, hD1_⟩ := hB_
    rw [ht_] at hP
    have hD : va_D A (wX G ad1_ S1_) := hD1_.weaken (fun k q _ h => hFc q.1 h)
    obtain ⟨hX1_, hF1_, hg1_, ⟨z1_, bz1_, ez1_⟩, hv1_, he1_⟩ := hw_
    try rw [show fF S_5 i 3 = fF S i 3 from Fr.F hF_8 (lt71 (by omega)) (fun q => by omega)] at hv1_
    try rw [show fF S_5 i 0 = fF S i 0 from Fr.F hF_8 (lt71 (by omega)) (fun q => by omega)] at hv1_
    have hl : lv_has ls 4 [(0, .ref (ad1_ (2 + 1))), (1, .ref (ad1_ i)), (2, .int (x)), (3, .ref (ad1_ 61))] := by rw [hg1_ (2 + 1) ((lt71 (by omega))), hg1_ i ((lt71 (by omega))), hg1_ 61 ((lt71 (by omega)))]; exact hl
    exact kk_k_12 r_ S1_ ad1_ H locs z1_ ls hX1_ (Fr.tr hF_8 hF1_ (fun j k hj h => by have hc_ := (hF_8).1; have hk_ := Fr.K hF_8 hj; omega)) (fun j hj => (hg1_ j (Nat.lt_of_lt_of_le hj (Nat.add_le_add_left (hF_8).1 71))).trans (hg_9 j hj)) (by omega) ez1_ (hv1_.trans (aV_1 _ _ _).symm) he1_ hP hD hS hl
  · refine va_calli (va_runU (As := [.ref (ad_6 i), .int (x), .ref (ad_6 61)]) (rest := []) ⟨hx, hb, hml, hown, hT⟩ (c_x4_asksE l G ad_6 S_5 H.size (2) (i) ((z + 1)) (x) ((by omega : 2 < 7)) (hpk) (ez_10) (by first | assumption | omega) (hX_7)) (tO 3 hT m5_8 m4_124 m4_122 m4_206 m4_207 m1_4 m4_208 m4_221 rfl rfl (by decide +kernel) ⟨Nat.le_of_ble_eq_true rfl, Nat.le_of_ble_eq_true rfl⟩) ⟨PcE_blind, va_recv hK hP (ci := 6) (q0 := 2 + 2) rfl (ix_at (lt71 (by omega)) (cX_knd (by omega))), PcE_of hP hK hD hE hS (fun q h => hFc q h) _⟩ rfl rfl hl.1 rfl (lv_room (Nat.le_of_ble_eq_true rfl)) (fk_get fk_cX5_buys_0 9 rfl) ⟨(by show (0 + 1) + 2 ≤ 5; omega), (by show (0 + 64) + 128 ≤ 320; omega)⟩) hS (fun q _ h => hFc q h) hFc (fun r_ u_ t_ H locs ht_ hvm_ hw_ hB_ hz_ hk_ hS => ?_)
    obtain ⟨S1_, ad1_⟩ := u_
    dsimp only at hB_ hw_
    obtain ⟨hP, -, hD1_⟩ := hB_
    rw [ht_] at hP
    have hD : va_D A (wX G ad1_ S1_) := hD1_.weaken (fun k q _ h => hFc q.1 h)
    obtain ⟨hX1_, hF1_, hg1_, ⟨z1_, bz1_, ez1_⟩, hv1_, he1_⟩ := hw_
    try rw [show fF S_5 i 3 = fF S i 3 from Fr.F hF_8 (lt71 (by omega)) (fun q => by omega)] at hv1_
    try rw [show fF S_5 i 0 = fF S i 0 from Fr.F hF_8 (lt71 (by omega)) (fun q => by omega)] at hv1_
    have hl : lv_has ls 4 [(0, .ref (ad1_ (2 + 2))), (1, .ref (ad1_ i)), (2, .int (x)), (3, .ref (ad1_ 61))] := by rw [hg1_ (2 + 2) ((lt71 (by omega))), hg1_ i ((lt71 (by omega))), hg1_ 61 ((lt71 (by omega)))]; exact hl
    exact kk_k_12 r_ S1_ ad1_ H locs z1_ ls hX1_ (Fr.tr hF_8 hF1_ (fun j k hj h => by have hc_ := (hF_8).1; have hk_ := Fr.K hF_8 hj; omega)) (fun j hj => (hg1_ j (Nat.lt_of_lt_of_le hj (Nat.add_le_add_left (hF_8).1 71))).trans (hg_9 j hj)) (by omega) ez1_ (hv1_.trans (aV_2 _ _ _).symm) he1_ hP hD hS hl
  · refine va_calli (va_runU (As := [.ref (ad_6 i), .int (x), .ref (ad_6 61)]) (rest := []) ⟨hx, hb, hml, hown, hT⟩ (c_x5_asksE l G ad_6 S_5 H.size (3) (i) ((z + 1)) (x) ((by omega : 3 < 7)) (hpk) (ez_10) (by first | assumption | omega) (hX_7)) (tU 3 hT m5_8 m4_124 m4_125 m4_122 m1_2 m4_221 rfl rfl rfl (by decide +kernel) ⟨Nat.le_of_ble_eq_true rfl, Nat.le_of_ble_eq_true rfl⟩) ⟨PcE_blind, va_recv hK hP (ci := 2) (q0 := 2 + 3) rfl (ix_at (lt71 (by omega)) (cX_knd (by omega))), PcE_of hP hK hD hE hS (fun q h => hFc q h) _⟩ rfl rfl hl.1 rfl (lv_room (Nat.le_of_ble_eq_true rfl)) (fk_get fk_cX5_buys_0 9 rfl) ⟨(by show (0 + 1) + 2 ≤ 5; omega), (by show (0 + 64) + 128 ≤ 320; omega)⟩) hS (fun q _ h => hFc q h) hFc (fun r_ u_ t_ H locs ht_ hvm_ hw_ hB_ hz_ hk_ hS => ?_)
    obtain ⟨S1_, ad1_⟩ := u_
    dsimp only at hB_ hw_
    obtain ⟨hP, -, hD1_⟩ := hB_
    rw [ht_] at hP
    have hD : va_D A (wX G ad1_ S1_) := hD1_.weaken (fun k q _ h => hFc q.1 h)
    obtain ⟨hX1_, hF1_, hg1_, ⟨z1_, bz1_, ez1_⟩, hv1_, he1_⟩ := hw_
    try rw [show fF S_5 i 3 = fF S i 3 from Fr.F hF_8 (lt71 (by omega)) (fun q => by omega)] at hv1_
    try rw [show fF S_5 i 0 = fF S i 0 from Fr.F hF_8 (lt71 (by omega)) (fun q => by omega)] at hv1_
    have hl : lv_has ls 4 [(0, .ref (ad1_ (2 + 3))), (1, .ref (ad1_ i)), (2, .int (x)), (3, .ref (ad1_ 61))] := by rw [hg1_ (2 + 3) ((lt71 (by omega))), hg1_ i ((lt71 (by omega))), hg1_ 61 ((lt71 (by omega)))]; exact hl
    exact kk_k_12 r_ S1_ ad1_ H locs z1_ ls hX1_ (Fr.tr hF_8 hF1_ (fun j k hj h => by have hc_ := (hF_8).1; have hk_ := Fr.K hF_8 hj; omega)) (fun j hj => (hg1_ j (Nat.lt_of_lt_of_le hj (Nat.add_le_add_left (hF_8).1 71))).trans (hg_9 j hj)) (by omega) ez1_ (hv1_.trans (aV_3 _ _ _).symm) he1_ hP hD hS hl
  · refine va_calli (va_runU (As := [.ref (ad_6 i), .int (x), .ref (ad_6 61)]) (rest := []) ⟨hx, hb, hml, hown, hT⟩ (c_x2_asksE l G ad_6 S_5 H.size (4) (i) ((z + 1)) (x) ((by omega : 4 < 7)) (hpk) (ez_10) (by first | assumption | omega) (hX_7)) (tO 3 hT m5_8 m4_124 m4_122 m4_126 m4_127 m1_6 m4_128 m4_221 rfl rfl (by decide +kernel) ⟨Nat.le_of_ble_eq_true rfl, Nat.le_of_ble_eq_true rfl⟩) ⟨PcE_blind, va_recv hK hP (ci := 4) (q0 := 2 + 4) rfl (ix_at (lt71 (by omega)) (cX_knd (by omega))), PcE_of hP hK hD hE hS (fun q h => hFc q h) _⟩ rfl rfl hl.1 rfl (lv_room (Nat.le_of_ble_eq_true rfl)) (fk_get fk_cX5_buys_0 9 rfl) ⟨(by show (0 + 1) + 2 ≤ 5; omega), (by show (0 + 64) + 128 ≤ 320; omega)⟩) hS (fun q _ h => hFc q h) hFc (fun r_ u_ t_ H locs ht_ hvm_ hw_ hB_ hz_ hk_ hS => ?_)
    obtain ⟨S1_, ad1_⟩ := u_
    dsimp only at hB_ hw_
    obtain ⟨hP, -, hD1_⟩ := hB_
    rw [ht_] at hP
    have hD : va_D A (wX G ad1_ S1_) := hD1_.weaken (fun k q _ h => hFc q.1 h)
    obtain ⟨hX1_, hF1_, hg1_, ⟨z1_, bz1_, ez1_⟩, hv1_, he1_⟩ := hw_
    try rw [show fF S_5 i 3 = fF S i 3 from Fr.F hF_8 (lt71 (by omega)) (fun q => by omega)] at hv1_
    try rw [show fF S_5 i 0 = fF S i 0 from Fr.F hF_8 (lt71 (by omega)) (fun q => by omega)] at hv1_
    have hl : lv_has ls 4 [(0, .ref (ad1_ (2 + 4))), (1, .ref (ad1_ i)), (2, .int (x)), (3, .ref (ad1_ 61))] := by rw [hg1_ (2 + 4) ((lt71 (by omega))), hg1_ i ((lt71 (by omega))), hg1_ 61 ((lt71 (by omega)))]; exact hl
    exact kk_k_12 r_ S1_ ad1_ H locs z1_ ls hX1_ (Fr.tr hF_8 hF1_ (fun j k hj h => by have hc_ := (hF_8).1; have hk_ := Fr.K hF_8 hj; omega)) (fun j hj => (hg1_ j (Nat.lt_of_lt_of_le hj (Nat.add_le_add_left (hF_8).1 71))).trans (hg_9 j hj)) (by omega) ez1_ (hv1_.trans (aV_4 _ _ _).symm) he1_ hP hD hS hl
  · refine va_calli (va_runU (As := [.ref (ad_6 i), .int (x), .ref (ad_6 61)]) (rest := []) ⟨hx, hb, hml, hown, hT⟩ (c_x4_asksE l G ad_6 S_5 H.size (5) (i) ((z + 1)) (x) ((by omega : 5 < 7)) (hpk) (ez_10) (by first | assumption | omega) (hX_7)) (tO 3 hT m5_8 m4_124 m4_122 m4_212 m4_207 m1_4 m4_208 m4_221 rfl rfl (by decide +kernel) ⟨Nat.le_of_ble_eq_true rfl, Nat.le_of_ble_eq_true rfl⟩) ⟨PcE_blind, va_recv hK hP (ci := 8) (q0 := 2 + 5) rfl (ix_at (lt71 (by omega)) (cX_knd (by omega))), PcE_of hP hK hD hE hS (fun q h => hFc q h) _⟩ rfl rfl hl.1 rfl (lv_room (Nat.le_of_ble_eq_true rfl)) (fk_get fk_cX5_buys_0 9 rfl) ⟨(by show (0 + 1) + 2 ≤ 5; omega), (by show (0 + 64) + 128 ≤ 320; omega)⟩) hS (fun q _ h => hFc q h) hFc (fun r_ u_ t_ H locs ht_ hvm_ hw_ hB_ hz_ hk_ hS => ?_)
    obtain ⟨S1_, ad1_⟩ := u_
    dsimp only at hB_ hw_
    obtain ⟨hP, -, hD1_⟩ := hB_
    rw [ht_] at hP
    have hD : va_D A (wX G ad1_ S1_) := hD1_.weaken (fun k q _ h => hFc q.1 h)
    obtain ⟨hX1_, hF1_, hg1_, ⟨z1_, bz1_, ez1_⟩, hv1_, he1_⟩ := hw_
    try rw [show fF S_5 i 3 = fF S i 3 from Fr.F hF_8 (lt71 (by omega)) (fun q => by omega)] at hv1_
    try rw [show fF S_5 i 0 = fF S i 0 from Fr.F hF_8 (lt71 (by omega)) (fun q => by omega)] at hv1_
    have hl : lv_has ls 4 [(0, .ref (ad1_ (2 + 5))), (1, .ref (ad1_ i)), (2, .int (x)), (3, .ref (ad1_ 61))] := by rw [hg1_ (2 + 5) ((lt71 (by omega))), hg1_ i ((lt71 (by omega))), hg1_ 61 ((lt71 (by omega)))]; exact hl
    exact kk_k_12 r_ S1_ ad1_ H locs z1_ ls hX1_ (Fr.tr hF_8 hF1_ (fun j k hj h => by have hc_ := (hF_8).1; have hk_ := Fr.K hF_8 hj; omega)) (fun j hj => (hg1_ j (Nat.lt_of_lt_of_le hj (Nat.add_le_add_left (hF_8).1 71))).trans (hg_9 j hj)) (by omega) ez1_ (hv1_.trans (aV_5 _ _ _).symm) he1_ hP hD hS hl
  · refine va_calli (va_runU (As := [.ref (ad_6 i), .int (x), .ref (ad_6 61)]) (rest := []) ⟨hx, hb, hml, hown, hT⟩ (c_x10_asksE l G ad_6 S_5 H.size (6) (i) ((z + 1)) (x) ((by omega : 6 < 7)) (hpk) (ez_10) (by first | assumption | omega) (hX_7)) (tO 3 hT m5_8 m4_124 m4_122 m4_214 m4_215 m1_8 m4_216 m4_221 rfl rfl (by decide +kernel) ⟨Nat.le_of_ble_eq_true rfl, Nat.le_of_ble_eq_true rfl⟩) ⟨PcE_blind, va_recv hK hP (ci := 12) (q0 := 2 + 6) rfl (ix_at (lt71 (by omega)) (cX_knd (by omega))), PcE_of hP hK hD hE hS (fun q h => hFc q h) _⟩ rfl rfl hl.1 rfl (lv_room (Nat.le_of_ble_eq_true rfl)) (fk_get fk_cX5_buys_0 9 rfl) ⟨(by show (0 + 1) + 2 ≤ 5; omega), (by show (0 + 64) + 128 ≤ 320; omega)⟩) hS (fun q _ h => hFc q h) hFc (fun r_ u_ t_ H locs ht_ hvm_ hw_ hB_ hz_ hk_ hS => ?_)
    obtain ⟨S1_, ad1_⟩ := u_
    dsimp only at hB_ hw_
    obtain ⟨hP, -, hD1_⟩ := hB_
    rw [ht_] at hP
    have hD : va_D A (wX G ad1_ S1_) := hD1_.weaken (fun k q _ h => hFc q.1 h)
    obtain ⟨hX1_, hF1_, hg1_, ⟨z1_, bz1_, ez1_⟩, hv1_, he1_⟩ := hw_
    try rw [show fF S_5 i 3 = fF S i 3 from Fr.F hF_8 (lt71 (by omega)) (fun q => by omega)] at hv1_
    try rw [show fF S_5 i 0 = fF S i 0 from Fr.F hF_8 (lt71 (by omega)) (fun q => by omega)] at hv1_
    have hl : lv_has ls 4 [(0, .ref (ad1_ (2 + 6))), (1, .ref (ad1_ i)), (2, .int (x)), (3, .ref (ad1_ 61))] := by rw [hg1_ (2 + 6) ((lt71 (by omega))), hg1_ i ((lt71 (by omega))), hg1_ 61 ((lt71 (by omega)))]; exact hl
    exact kk_k_12 r_ S1_ ad1_ H locs z1_ ls hX1_ (Fr.tr hF_8 hF1_ (fun j k hj h => by have hc_ := (hF_8).1; have hk_ := Fr.K hF_8 hj; omega)) (fun j hj => (hg1_ j (Nat.lt_of_lt_of_le hj (Nat.add_le_add_left (hF_8).1 71))).trans (hg_9 j hj)) (by omega) ez1_ (hv1_.trans (aV_6 _ _ _).symm) he1_ hP hD hS hl
set_option maxHeartbeats 800000 in
set_option maxRecDepth 100000 in
theorem c_x8_buys4E (l : Launch) (G : GG) (ad : Nat → Nat) (S : FS) (sz : Nat) (qz i z : Nat) (x : Int32) (hq : qz < 7) (hpk : pk i = 7) (hzz : fF S 61 2 = nI z) (hzN : z + 4 ≤ 40) (hX : XI S) : Met l yX8_buys (Cond.code yX8_buys cX8_buys 4 (some .int) :: TBL) ({ frames := 16, cells := 4, slots := 256, locals := 506 } : Room) (PcE G (wX G ad S) sz [.ref (ad (2 + qz)), .ref (ad i), .int (x), .ref (ad 61)]) (va_Qi (fun (r : Int32) (u : FS × (Nat → Nat)) => XI u.1 ∧ Fr (fun j k => j = 61 ∨ (71 ≤ j ∧ (fK S j = 2 ∨ 71 + fC S ≤ j))) S u.1 ∧ (∀ j, j < 71 + fC S → u.2 j = ad j) ∧ (∃ z', z' ≤ z + 4 ∧ fF u.1 61 2 = nI z') ∧ r = (aV (nI qz) ((fF S i 3)) ((fF S i 0)) x - ((fF S i 3))) ^^^ 6 ∧ EB z ((20 :: 11 :: aL qz)) S u.1) (fun u t => BW G (va_A (wX G ad S) sz) (wX G u.2 u.1) t) (va_A (wX G ad S) sz)) 4 256 (va_A (wX G ad S) sz) := by
  refine Met.ofW (cc := cX8_buys) (maxL := 4) (ret := (some .int)) (by decide) rfl ?_
  intro p e s m args below meth c₀ s₁ B hml hv
  obtain ⟨rfl, hsz, hP, hK, hD0, hE⟩ := hv
  have hx := B.exec
  have hb := B.bytes
  have hr := B.returns
  have hT : ∀ w ∈ TBL, w.before ([.ref (ad (2 + qz)), .ref (ad i), .int (x), .ref (ad 61)] : List Value).toArray s = true := fun w h => atoms_spec (ws := Cond.code yX8_buys cX8_buys 4 (some .int) :: TBL) B.pre w (List.mem_cons_of_mem _ h)
  have hown : s.vm.findClass "LittleMore$Strict" = some m.cls := findClass_of_methodNamed B.named
  have hlocks := B.notSynchronized
  subst hsz
  have hD := hD0.self (sz := s.heap.size)
  generalize hAe : va_A (wX G ad S) s.heap.size = A at hD hE ⊢
  have hA : ∀ q : Nat, s.heap.size ≤ q → A q := fun q h => by rw [← hAe]; exact Or.inr h
  have hS : va_S A s.heap s.heap [] := va_S.rf
  have hP : va_P G.1 vwCl (wX G ad S) s.heap := hP
  have hl := lv_entry ([.ref (ad (2 + qz)), .ref (ad i), .int (x), .ref (ad 61)]) (n := 4) (Nat.le_of_ble_eq_true rfl)
  rw [lg_entry_eq]
  generalize (lg_sl ([.ref (ad (2 + qz)), .ref (ad i), .int (x), .ref (ad 61)]) ++ List.replicate (4 - (lg_sl ([.ref (ad (2 + qz)), .ref (ad i), .int (x), .ref (ad 61)])).length) Slot.unset).toArray = ls at hl ⊢
  have hl : lv_has ls 4 [(0, .ref (ad (2 + qz))), (1, .ref (ad i)), (2, .int (x)), (3, .ref (ad 61))] := hl
  refine W_abs (fun Q hQ => ?_)
  generalize ([.ref (ad (2 + qz)), .ref (ad i), .int (x), .ref (ad 61)] : List Value).toArray = args at hT hQ ⊢
  have hb_i := pk7 hpk
  obtain ⟨r_k, hr_k⟩ := kcl_at hq
  refine lv_aload_n hx hb (fk_get fk_cX8_buys_0 0 rfl) rfl (lv_at hl 3 rfl) ?_
  refine lv_bipush (v := 20) hx hb (fk_get fk_cX8_buys_0 1 rfl) (by decide) ?_
  have hFc := va_self hD hS hA
  refine va_csq (W.runS (As := [.int (20)]) (rest := [.ref (ad 61)]) ⟨hx, hb, hml, hown, hT⟩ (c_jvalueOf l G ad S s.heap.size (20) (by first | assumption | omega) (hX)) (tS 1 hT m4_235 m4_130 m1_26 m4_131 rfl rfl (by decide +kernel) ⟨Nat.le_of_ble_eq_true rfl, Nat.le_of_ble_eq_true rfl⟩) ⟨PcE_blind, PcE_of hP hK hD hE hS (fun q h => hFc q h) _⟩ rfl rfl hl.1 rfl (lv_room (Nat.le_of_ble_eq_true rfl)) (fk_get fk_cX8_buys_0 2 rfl) ⟨Nat.zero_le _, Nat.zero_le _⟩) (fun r_1 hw_2 => ?_)
  try dsimp only at hw_2
  obtain ⟨jb_3, hb_3, eb_3, rfl⟩ := hw_2
  rw [show va_rf (some (G.2.2.2 jb_3)) = .ref (G.2.2.2 jb_3) from rfl]
  have hFc := va_self hD hS hA
  refine va_calli (va_runV (As := [.ref (G.2.2.2 jb_3)]) (rest := []) ⟨hx, hb, hml, hown, hT⟩ (c_jadd l G ad S s.heap.size (z) (jb_3) (hzz) (by first | assumption | omega) (hb_3) (hX)) (tV 1 hT m4_236 m4_150 m4_151 m1_15 m4_152 rfl rfl (by decide +kernel) ⟨Nat.le_of_ble_eq_true rfl, Nat.le_of_ble_eq_true rfl⟩) ⟨PcE_blind, va_recv hK hP (ci := 1) (q0 := 61) rfl (ix_at (lt71 (by omega)) (cX_lst G ad S)), PcE_of hP hK hD hE hS (fun q h => hFc q h) _⟩ rfl rfl hl.1 rfl (lv_room (Nat.le_of_ble_eq_true rfl)) (fk_get fk_cX8_buys_0 3 rfl) ⟨Nat.le_of_ble_eq_true rfl, Nat.le_of_ble_eq_true rfl⟩) hS (fun q _ h => hFc q h) hFc (fun r_3 u_ t_ H locs ht_ hvm_ hw_4 hB_ hz_ hk_ hS => ?_)
  obtain ⟨S_5, ad_6⟩ := u_
  dsimp only at hB_ hw_4
  obtain ⟨hP, -, hD1_⟩ := hB_
  rw [ht_] at hP
  have hD : va_D A (wX G ad_6 S_5) := hD1_.weaken (fun k q _ h => hFc q.1 h)
  obtain ⟨hX_7, hF_8_, hg_9_, hw_4⟩ := hw_4
  have hg_9 : ∀ j, j < 71 + fC S → ad_6 j = ad j := fun j hj => (hg_9_ j (Nat.lt_of_lt_of_le hj (Nat.add_le_add_left ((Fr.rf : Fr (fun j k => j = 61 ∨ (71 ≤ j ∧ (fK S j = 2 ∨ 71 + fC S ≤ j))) S S)).1 71))).trans ((fun _ _ => rfl) j hj)
  have hF_8 : Fr (fun j k => j = 61 ∨ (71 ≤ j ∧ (fK S j = 2 ∨ 71 + fC S ≤ j))) S S_5 := Fr.tr (Fr.rf : Fr (fun j k => j = 61 ∨ (71 ≤ j ∧ (fK S j = 2 ∨ 71 + fC S ≤ j))) S S) hF_8_ (fun j k hj h => by have hc_ := ((Fr.rf : Fr (fun j k => j = 61 ∨ (71 ≤ j ∧ (fK S j = 2 ∨ 71 + fC S ≤ j))) S S)).1; have hk_ := Fr.K ((Fr.rf : Fr (fun j k => j = 61 ∨ (71 ≤ j ∧ (fK S j = 2 ∨ 71 + fC S ≤ j))) S S)) hj; omega)
  have hl : lv_has ls 4 [(0, .ref (ad_6 (2 + qz))), (1, .ref (ad_6 i)), (2, .int (x)), (3, .ref (ad_6 61))] := by rw [hg_9_ (2 + qz) ((lt71 (by omega))), hg_9_ i ((lt71 (by omega))), hg_9_ 61 ((lt71 (by omega)))]; exact hl
  obtain ⟨ez_10, hw_4_⟩ := hw_4
  have eb_11 : EB z ([] ++ [20]) S S_5 := eb_app (eb_0 hzz) hzz (by omega) (by omega) (by simp only [List.length_append, List.length_cons, List.length_nil]; have := aL_len qz; have := bL_len qz; omega) (eb_1 ez_10 hw_4_ eb_3)
  refine lv_pop hx hb (fk_get fk_cX8_buys_0 4 rfl) rfl ?_
  refine lv_aload_n hx hb (fk_get fk_cX8_buys_0 5 rfl) rfl (lv_at hl 0 rfl) ?_
  refine lv_aload_n hx hb (fk_get fk_cX8_buys_0 6 rfl) rfl (lv_at hl 1 rfl) ?_
  refine lv_iload_n hx hb (fk_get fk_cX8_buys_0 7 rfl) rfl (lv_at hl 2 rfl) ?_
  refine lv_aload_n hx hb (fk_get fk_cX8_buys_0 8 rfl) rfl (lv_at hl 3 rfl) ?_
  have hFc := va_self hD hS hA
  refine va_calli (va_runSU (C := r_k.1) (As := [.ref (ad_6 i), .int (x), .ref (ad_6 61)]) (rest := []) (hK.1 (kcl qz) r_k hr_k).2 ⟨hx, hb, hml, hown, hT⟩ (c_x5_buys3E l G ad_6 S_5 H.size (qz) (i) ((z + 1)) (x) (hq) (hpk) (ez_10) (by first | assumption | omega) (hX_7)) (tSU 3 hT m4_237 m4_227 m1_58 m4_225 m1_2 m5_7 rfl rfl (by decide +kernel) ⟨Nat.le_of_ble_eq_true rfl, Nat.le_of_ble_eq_true rfl⟩) ⟨PcE_blind, va_recv hK hP hr_k (ix_at (lt71 (by omega)) (cX_knd hq)), PcE_of hP hK hD hE hS (fun q h => hFc q h) _⟩ rfl rfl hl.1 rfl (lv_room (Nat.le_of_ble_eq_true rfl)) (fk_get fk_cX8_buys_0 9 rfl) ⟨(by show (0 + 1) + 3 ≤ 4; omega), (by show (0 + 64) + 192 ≤ 256; omega)⟩) hS (fun q _ h => hFc q h) hFc (fun r_12 u_ t_ H locs ht_ hvm_ hw_13 hB_ hz_ hk_ hS => ?_)
  obtain ⟨S_14, ad_15⟩ := u_
  dsimp only at hB_ hw_13
  obtain ⟨hP, -, hD1_⟩ := hB_
  rw [ht_] at hP
  have hD : va_D A (wX G ad_15 S_14) := hD1_.weaken (fun k q _ h => hFc q.1 h)
  obtain ⟨hX_16, hF_17_, hg_18_, hw_13⟩ := hw_13
  have hg_18 : ∀ j, j < 71 + fC S → ad_15 j = ad j := fun j hj => (hg_18_ j (Nat.lt_of_lt_of_le hj (Nat.add_le_add_left (hF_8).1 71))).trans (hg_9 j hj)
  have hF_17 : Fr (fun j k => j = 61 ∨ (71 ≤ j ∧ (fK S j = 2 ∨ 71 + fC S ≤ j))) S S_14 := Fr.tr hF_8 hF_17_ (fun j k hj h => by have hc_ := (hF_8).1; have hk_ := Fr.K hF_8 hj; omega)
  have hl : lv_has ls 4 [(0, .ref (ad_15 (2 + qz))), (1, .ref (ad_15 i)), (2, .int (x)), (3, .ref (ad_15 61))] := by rw [hg_18_ (2 + qz) ((lt71 (by omega))), hg_18_ i ((lt71 (by omega))), hg_18_ 61 ((lt71 (by omega)))]; exact hl
  obtain ⟨⟨z_19, bz_19, ez_19⟩, hvz_19, hez_19⟩ := hw_13
  try rw [show fF S_5 i 3 = fF S i 3 from Fr.F hF_8 (lt71 (by omega)) (fun q => by omega)] at hvz_19
  try rw [show fF S_5 i 0 = fF S i 0 from Fr.F hF_8 (lt71 (by omega)) (fun q => by omega)] at hvz_19
  subst hvz_19
  have eb_20 : EB z (([] ++ [20]) ++ ((11 :: aL qz))) S S_14 := eb_app eb_11 ez_10 (by omega) (by omega) (by simp only [List.length_append, List.length_cons, List.length_nil]; have := aL_len qz; have := bL_len qz; omega) hez_19
  refine lv_bipush (v := 6) hx hb (fk_get fk_cX8_buys_0 10 rfl) (by decide) ?_
  refine lv_ixor hx hb (fk_get fk_cX8_buys_0 11 rfl) ?_
  subst hQ
  have hpost : XI S_14 ∧ Fr (fun j k => j = 61 ∨ (71 ≤ j ∧ (fK S j = 2 ∨ 71 + fC S ≤ j))) S S_14 ∧ (∀ j, j < 71 + fC S → ad_15 j = ad j) ∧ (∃ z', z' ≤ z + 4 ∧ fF S_14 61 2 = nI z') ∧ (((aV (nI qz) (fF S i 3) (fF S i 0) x - (fF S i 3)) ^^^ 6) : Int32) = (aV (nI qz) ((fF S i 3)) ((fF S i 0)) x - ((fF S i 3))) ^^^ 6 ∧ EB z ((20 :: 11 :: aL qz)) S S_14 := by
    exact ⟨hX_16, hF_17, hg_18, ⟨⟨_, by omega, ez_19⟩, by rfl, eb_20⟩⟩
  refine W.widen (k := 4) (n := 256) (by omega) (by omega) ?_
  exact W.iret (v := ((aV (nI qz) (fF S i 3) (fF S i 0) x - (fF S i 3)) ^^^ 6)) hx hb hr (fun t_ ht_ hW_ => ⟨⟨((aV (nI qz) (fF S i 3) (fF S i 0) x - (fF S i 3)) ^^^ 6), (S_14, ad_15), rfl, hpost, by rw [ht_]; exact hP, va_K.moved hW_.alike hK, hD⟩, hS.F ht_⟩) hS.2.2 (fk_get fk_cX8_buys_0 12 rfl)
set_option maxHeartbeats 800000 in
set_option maxRecDepth 100000 in
theorem c_x8_buysE (l : Launch) (G : GG) (ad : Nat → Nat) (S : FS) (sz : Nat) (qz i z : Nat) (x : Int32) (hq : qz < 7) (hpk : pk i = 7) (hzz : fF S 61 2 = nI z) (hzN : z + 5 ≤ 40) (hX : XI S) : Met l yX8_buys (Cond.code yX8_buys cX8_buys 4 (some .int) :: TBL) ({ frames := 16, cells := 5, slots := 320, locals := 506 } : Room) (PcE G (wX G ad S) sz [.ref (ad (2 + qz)), .ref (ad i), .int (x), .ref (ad 61)]) (va_Qi (fun (r : Int32) (u : FS × (Nat → Nat)) => XI u.1 ∧ Fr (fun j k => j = 61 ∨ (71 ≤ j ∧ (fK S j = 2 ∨ 71 + fC S ≤ j))) S u.1 ∧ (∀ j, j < 71 + fC S → u.2 j = ad j) ∧ (∃ z', z' ≤ z + 5 ∧ fF u.1 61 2 = nI z') ∧ r = (aV (nI qz) ((fF S i 3)) ((fF S i 0)) x - ((fF S i 3))) ^^^ 6 ∧ EB z ((20 :: 11 :: aL qz)) S u.1) (fun u t => BW G (va_A (wX G ad S) sz) (wX G u.2 u.1) t) (va_A (wX G ad S) sz)) 5 320 (va_A (wX G ad S) sz) := by
  refine Met.ofW (cc := cX8_buys) (maxL := 4) (ret := (some .int)) (by decide) rfl ?_
  intro p e s m args below meth c₀ s₁ B hml hv
  obtain ⟨rfl, hsz, hP, hK, hD0, hE⟩ := hv
  have hx := B.exec
  have hb := B.bytes
  have hr := B.returns
  have hT : ∀ w ∈ TBL, w.before ([.ref (ad (2 + qz)), .ref (ad i), .int (x), .ref (ad 61)] : List Value).toArray s = true := fun w h => atoms_spec (ws := Cond.code yX8_buys cX8_buys 4 (some .int) :: TBL) B.pre w (List.mem_cons_of_mem _ h)
  have hown : s.vm.findClass "LittleMore$Strict" = some m.cls := findClass_of_methodNamed B.named
  have hlocks := B.notSynchronized
  subst hsz
  have hD := hD0.self (sz := s.heap.size)
  generalize hAe : va_A (wX G ad S) s.heap.size = A at hD hE ⊢
  have hA : ∀ q : Nat, s.heap.size ≤ q → A q := fun q h => by rw [← hAe]; exact Or.inr h
  have hS : va_S A s.heap s.heap [] := va_S.rf
  have hP : va_P G.1 vwCl (wX G ad S) s.heap := hP
  have hl := lv_entry ([.ref (ad (2 + qz)), .ref (ad i), .int (x), .ref (ad 61)]) (n := 4) (Nat.le_of_ble_eq_true rfl)
  rw [lg_entry_eq]
  generalize (lg_sl ([.ref (ad (2 + qz)), .ref (ad i), .int (x), .ref (ad 61)]) ++ List.replicate (4 - (lg_sl ([.ref (ad (2 + qz)), .ref (ad i), .int (x), .ref (ad 61)])).length) Slot.unset).toArray = ls at hl ⊢
  have hl : lv_has ls 4 [(0, .ref (ad (2 + qz))), (1, .ref (ad i)), (2, .int (x)), (3, .ref (ad 61))] := hl
  refine W_abs (fun Q hQ => ?_)
  generalize ([.ref (ad (2 + qz)), .ref (ad i), .int (x), .ref (ad 61)] : List Value).toArray = args at hT hQ ⊢
  have hb_i := pk7 hpk
  obtain ⟨r_k, hr_k⟩ := kcl_at hq
  refine lv_aload_n hx hb (fk_get fk_cX8_buys_0 0 rfl) rfl (lv_at hl 3 rfl) ?_
  refine lv_bipush (v := 20) hx hb (fk_get fk_cX8_buys_0 1 rfl) (by decide) ?_
  have hFc := va_self hD hS hA
  refine va_csq (W.runS (As := [.int (20)]) (rest := [.ref (ad 61)]) ⟨hx, hb, hml, hown, hT⟩ (c_jvalueOf l G ad S s.heap.size (20) (by first | assumption | omega) (hX)) (tS 1 hT m4_235 m4_130 m1_26 m4_131 rfl rfl (by decide +kernel) ⟨Nat.le_of_ble_eq_true rfl, Nat.le_of_ble_eq_true rfl⟩) ⟨PcE_blind, PcE_of hP hK hD hE hS (fun q h => hFc q h) _⟩ rfl rfl hl.1 rfl (lv_room (Nat.le_of_ble_eq_true rfl)) (fk_get fk_cX8_buys_0 2 rfl) ⟨Nat.zero_le _, Nat.zero_le _⟩) (fun r_1 hw_2 => ?_)
  try dsimp only at hw_2
  obtain ⟨jb_3, hb_3, eb_3, rfl⟩ := hw_2
  rw [show va_rf (some (G.2.2.2 jb_3)) = .ref (G.2.2.2 jb_3) from rfl]
  have hFc := va_self hD hS hA
  refine va_calli (va_runV (As := [.ref (G.2.2.2 jb_3)]) (rest := []) ⟨hx, hb, hml, hown, hT⟩ (c_jadd l G ad S s.heap.size (z) (jb_3) (hzz) (by first | assumption | omega) (hb_3) (hX)) (tV 1 hT m4_236 m4_150 m4_151 m1_15 m4_152 rfl rfl (by decide +kernel) ⟨Nat.le_of_ble_eq_true rfl, Nat.le_of_ble_eq_true rfl⟩) ⟨PcE_blind, va_recv hK hP (ci := 1) (q0 := 61) rfl (ix_at (lt71 (by omega)) (cX_lst G ad S)), PcE_of hP hK hD hE hS (fun q h => hFc q h) _⟩ rfl rfl hl.1 rfl (lv_room (Nat.le_of_ble_eq_true rfl)) (fk_get fk_cX8_buys_0 3 rfl) ⟨Nat.le_of_ble_eq_true rfl, Nat.le_of_ble_eq_true rfl⟩) hS (fun q _ h => hFc q h) hFc (fun r_3 u_ t_ H locs ht_ hvm_ hw_4 hB_ hz_ hk_ hS => ?_)
  obtain ⟨S_5, ad_6⟩ := u_
  dsimp only at hB_ hw_4
  obtain ⟨hP, -, hD1_⟩ := hB_
  rw [ht_] at hP
  have hD : va_D A (wX G ad_6 S_5) := hD1_.weaken (fun k q _ h => hFc q.1 h)
  obtain ⟨hX_7, hF_8_, hg_9_, hw_4⟩ := hw_4
  have hg_9 : ∀ j, j < 71 + fC S → ad_6 j = ad j := fun j hj => (hg_9_ j (Nat.lt_of_lt_of_le hj (Nat.add_le_add_left ((Fr.rf : Fr (fun j k => j = 61 ∨ (71 ≤ j ∧ (fK S j = 2 ∨ 71 + fC S ≤ j))) S S)).1 71))).trans ((fun _ _ => rfl) j hj)
  have hF_8 : Fr (fun j k => j = 61 ∨ (71 ≤ j ∧ (fK S j = 2 ∨ 71 + fC S ≤ j))) S S_5 := Fr.tr (Fr.rf : Fr (fun j k => j = 61 ∨ (71 ≤ j ∧ (fK S j = 2 ∨ 71 + fC S ≤ j))) S S) hF_8_ (fun j k hj h => by have hc_ := ((Fr.rf : Fr (fun j k => j = 61 ∨ (71 ≤ j ∧ (fK S j = 2 ∨ 71 + fC S ≤ j))) S S)).1; have hk_ := Fr.K ((Fr.rf : Fr (fun j k => j = 61 ∨ (71 ≤ j ∧ (fK S j = 2 ∨ 71 + fC S ≤ j))) S S)) hj; omega)
  have hl : lv_has ls 4 [(0, .ref (ad_6 (2 + qz))), (1, .ref (ad_6 i)), (2, .int (x)), (3, .ref (ad_6 61))] := by rw [hg_9_ (2 + qz) ((lt71 (by omega))), hg_9_ i ((lt71 (by omega))), hg_9_ 61 ((lt71 (by omega)))]; exact hl
  obtain ⟨ez_10, hw_4_⟩ := hw_4
  have eb_11 : EB z ([] ++ [20]) S S_5 := eb_app (eb_0 hzz) hzz (by omega) (by omega) (by simp only [List.length_append, List.length_cons, List.length_nil]; have := aL_len qz; have := bL_len qz; omega) (eb_1 ez_10 hw_4_ eb_3)
  refine lv_pop hx hb (fk_get fk_cX8_buys_0 4 rfl) rfl ?_
  refine lv_aload_n hx hb (fk_get fk_cX8_buys_0 5 rfl) rfl (lv_at hl 0 rfl) ?_
  refine lv_aload_n hx hb (fk_get fk_cX8_buys_0 6 rfl) rfl (lv_at hl 1 rfl) ?_
  refine lv_iload_n hx hb (fk_get fk_cX8_buys_0 7 rfl) rfl (lv_at hl 2 rfl) ?_
  refine lv_aload_n hx hb (fk_get fk_cX8_buys_0 8 rfl) rfl (lv_at hl 3 rfl) ?_
  have hFc := va_self hD hS hA
  refine va_calli (va_runSU (C := r_k.1) (As := [.ref (ad_6 i), .int (x), .ref (ad_6 61)]) (rest := []) (hK.1 (kcl qz) r_k hr_k).2 ⟨hx, hb, hml, hown, hT⟩ (c_x5_buys3E l G ad_6 S_5 H.size (qz) (i) ((z + 1)) (x) (hq) (hpk) (ez_10) (by first | assumption | omega) (hX_7)) (tSU 3 hT m4_237 m4_227 m1_58 m4_225 m1_2 m5_7 rfl rfl (by decide +kernel) ⟨Nat.le_of_ble_eq_true rfl, Nat.le_of_ble_eq_true rfl⟩) ⟨PcE_blind, va_recv hK hP hr_k (ix_at (lt71 (by omega)) (cX_knd hq)), PcE_of hP hK hD hE hS (fun q h => hFc q h) _⟩ rfl rfl hl.1 rfl (lv_room (Nat.le_of_ble_eq_true rfl)) (fk_get fk_cX8_buys_0 9 rfl) ⟨(by show (0 + 1) + 3 ≤ 5; omega), (by show (0 + 64) + 192 ≤ 320; omega)⟩) hS (fun q _ h => hFc q h) hFc (fun r_12 u_ t_ H locs ht_ hvm_ hw_13 hB_ hz_ hk_ hS => ?_)
  obtain ⟨S_14, ad_15⟩ := u_
  dsimp only at hB_ hw_13
  obtain ⟨hP, -, hD1_⟩ := hB_
  rw [ht_] at hP
  have hD : va_D A (wX G ad_15 S_14) := hD1_.weaken (fun k q _ h => hFc q.1 h)
  obtain ⟨hX_16, hF_17_, hg_18_, hw_13⟩ := hw_13
  have hg_18 : ∀ j, j < 71 + fC S → ad_15 j = ad j := fun j hj => (hg_18_ j (Nat.lt_of_lt_of_le hj (Nat.add_le_add_left (hF_8).1 71))).trans (hg_9 j hj)
  have hF_17 : Fr (fun j k => j = 61 ∨ (71 ≤ j ∧ (fK S j = 2 ∨ 71 + fC S ≤ j))) S S_14 := Fr.tr hF_8 hF_17_ (fun j k hj h => by have hc_ := (hF_8).1; have hk_ := Fr.K hF_8 hj; omega)
  have hl : lv_has ls 4 [(0, .ref (ad_15 (2 + qz))), (1, .ref (ad_15 i)), (2, .int (x)), (3, .ref (ad_15 61))] := by rw [hg_18_ (2 + qz) ((lt71 (by omega))), hg_18_ i ((lt71 (by omega))), hg_18_ 61 ((lt71 (by omega)))]; exact hl
  obtain ⟨⟨z_19, bz_19, ez_19⟩, hvz_19, hez_19⟩ := hw_13
  try rw [show fF S_5 i 3 = fF S i 3 from Fr.F hF_8 (lt71 (by omega)) (fun q => by omega)] at hvz_19
  try rw [show fF S_5 i 0 = fF S i 0 from Fr.F hF_8 (lt71 (by omega)) (fun q => by omega)] at hvz_19
  subst hvz_19
  have eb_20 : EB z (([] ++ [20]) ++ ((11 :: aL qz))) S S_14 := eb_app eb_11 ez_10 (by omega) (by omega) (by simp only [List.length_append, List.length_cons, List.length_nil]; have := aL_len qz; have := bL_len qz; omega) hez_19
  refine lv_bipush (v := 6) hx hb (fk_get fk_cX8_buys_0 10 rfl) (by decide) ?_
  refine lv_ixor hx hb (fk_get fk_cX8_buys_0 11 rfl) ?_
  subst hQ
  have hpost : XI S_14 ∧ Fr (fun j k => j = 61 ∨ (71 ≤ j ∧ (fK S j = 2 ∨ 71 + fC S ≤ j))) S S_14 ∧ (∀ j, j < 71 + fC S → ad_15 j = ad j) ∧ (∃ z', z' ≤ z + 5 ∧ fF S_14 61 2 = nI z') ∧ (((aV (nI qz) (fF S i 3) (fF S i 0) x - (fF S i 3)) ^^^ 6) : Int32) = (aV (nI qz) ((fF S i 3)) ((fF S i 0)) x - ((fF S i 3))) ^^^ 6 ∧ EB z ((20 :: 11 :: aL qz)) S S_14 := by
    exact ⟨hX_16, hF_17, hg_18, ⟨⟨_, by omega, ez_19⟩, by rfl, eb_20⟩⟩
  refine W.widen (k := 5) (n := 320) (by omega) (by omega) ?_
  exact W.iret (v := ((aV (nI qz) (fF S i 3) (fF S i 0) x - (fF S i 3)) ^^^ 6)) hx hb hr (fun t_ ht_ hW_ => ⟨⟨((aV (nI qz) (fF S i 3) (fF S i 0) x - (fF S i 3)) ^^^ 6), (S_14, ad_15), rfl, hpost, by rw [ht_]; exact hP, va_K.moved hW_.alike hK, hD⟩, hS.F ht_⟩) hS.2.2 (fk_get fk_cX8_buys_0 12 rfl)
set_option maxHeartbeats 800000 in
set_option maxRecDepth 100000 in
theorem c_x2_buysE (l : Launch) (G : GG) (ad : Nat → Nat) (S : FS) (sz : Nat) (qz i z : Nat) (x : Int32) (hq : qz < 7) (hpk : pk i = 7) (hzz : fF S 61 2 = nI z) (hzN : z + 5 ≤ 40) (hX : XI S) : Met l yX2_buys (Cond.code yX2_buys cX2_buys 4 (some .int) :: TBL) ({ frames := 17, cells := 5, slots := 320, locals := 533 } : Room) (PcE G (wX G ad S) sz [.ref (ad (2 + qz)), .ref (ad i), .int (x), .ref (ad 61)]) (va_Qi (fun (r : Int32) (u : FS × (Nat → Nat)) => XI u.1 ∧ Fr (fun j k => j = 61 ∨ (71 ≤ j ∧ (fK S j = 2 ∨ 71 + fC S ≤ j))) S u.1 ∧ (∀ j, j < 71 + fC S → u.2 j = ad j) ∧ (∃ z', z' ≤ z + 5 ∧ fF u.1 61 2 = nI z') ∧ r = (aV (nI qz) ((fF S i 3)) ((fF S i 0)) ((x + 1)) - ((fF S i 3))) ^^^ 6 ∧ EB z ((51 :: 20 :: 11 :: aL qz)) S u.1) (fun u t => BW G (va_A (wX G ad S) sz) (wX G u.2 u.1) t) (va_A (wX G ad S) sz)) 5 320 (va_A (wX G ad S) sz) := by
  refine Met.ofW (cc := cX2_buys) (maxL := 4) (ret := (some .int)) (by decide) rfl ?_
  intro p e s m args below meth c₀ s₁ B hml hv
  obtain ⟨rfl, hsz, hP, hK, hD0, hE⟩ := hv
  have hx := B.exec
  have hb := B.bytes
  have hr := B.returns
  have hT : ∀ w ∈ TBL, w.before ([.ref (ad (2 + qz)), .ref (ad i), .int (x), .ref (ad 61)] : List Value).toArray s = true := fun w h => atoms_spec (ws := Cond.code yX2_buys cX2_buys 4 (some .int) :: TBL) B.pre w (List.mem_cons_of_mem _ h)
  have hown : s.vm.findClass "LittleMore$Counting" = some m.cls := findClass_of_methodNamed B.named
  have hlocks := B.notSynchronized
  subst hsz
  have hD := hD0.self (sz := s.heap.size)
  generalize hAe : va_A (wX G ad S) s.heap.size = A at hD hE ⊢
  have hA : ∀ q : Nat, s.heap.size ≤ q → A q := fun q h => by rw [← hAe]; exact Or.inr h
  have hS : va_S A s.heap s.heap [] := va_S.rf
  have hP : va_P G.1 vwCl (wX G ad S) s.heap := hP
  have hl := lv_entry ([.ref (ad (2 + qz)), .ref (ad i), .int (x), .ref (ad 61)]) (n := 4) (Nat.le_of_ble_eq_true rfl)
  rw [lg_entry_eq]
  generalize (lg_sl ([.ref (ad (2 + qz)), .ref (ad i), .int (x), .ref (ad 61)]) ++ List.replicate (4 - (lg_sl ([.ref (ad (2 + qz)), .ref (ad i), .int (x), .ref (ad 61)])).length) Slot.unset).toArray = ls at hl ⊢
  have hl : lv_has ls 4 [(0, .ref (ad (2 + qz))), (1, .ref (ad i)), (2, .int (x)), (3, .ref (ad 61))] := hl
  refine W_abs (fun Q hQ => ?_)
  generalize ([.ref (ad (2 + qz)), .ref (ad i), .int (x), .ref (ad 61)] : List Value).toArray = args at hT hQ ⊢
  have hb_i := pk7 hpk
  obtain ⟨r_k, hr_k⟩ := kcl_at hq
  refine lv_aload_n hx hb (fk_get fk_cX2_buys_0 0 rfl) rfl (lv_at hl 3 rfl) ?_
  refine lv_bipush (v := 51) hx hb (fk_get fk_cX2_buys_0 1 rfl) (by decide) ?_
  have hFc := va_self hD hS hA
  refine va_csq (W.runS (As := [.int (51)]) (rest := [.ref (ad 61)]) ⟨hx, hb, hml, hown, hT⟩ (c_jvalueOf l G ad S s.heap.size (51) (by first | assumption | omega) (hX)) (tS 1 hT m4_129 m4_130 m1_26 m4_131 rfl rfl (by decide +kernel) ⟨Nat.le_of_ble_eq_true rfl, Nat.le_of_ble_eq_true rfl⟩) ⟨PcE_blind, PcE_of hP hK hD hE hS (fun q h => hFc q h) _⟩ rfl rfl hl.1 rfl (lv_room (Nat.le_of_ble_eq_true rfl)) (fk_get fk_cX2_buys_0 2 rfl) ⟨Nat.zero_le _, Nat.zero_le _⟩) (fun r_1 hw_2 => ?_)
  try dsimp only at hw_2
  obtain ⟨jb_3, hb_3, eb_3, rfl⟩ := hw_2
  rw [show va_rf (some (G.2.2.2 jb_3)) = .ref (G.2.2.2 jb_3) from rfl]
  have hFc := va_self hD hS hA
  refine va_calli (va_runV (As := [.ref (G.2.2.2 jb_3)]) (rest := []) ⟨hx, hb, hml, hown, hT⟩ (c_jadd l G ad S s.heap.size (z) (jb_3) (hzz) (by first | assumption | omega) (hb_3) (hX)) (tV 1 hT m4_149 m4_150 m4_151 m1_15 m4_152 rfl rfl (by decide +kernel) ⟨Nat.le_of_ble_eq_true rfl, Nat.le_of_ble_eq_true rfl⟩) ⟨PcE_blind, va_recv hK hP (ci := 1) (q0 := 61) rfl (ix_at (lt71 (by omega)) (cX_lst G ad S)), PcE_of hP hK hD hE hS (fun q h => hFc q h) _⟩ rfl rfl hl.1 rfl (lv_room (Nat.le_of_ble_eq_true rfl)) (fk_get fk_cX2_buys_0 3 rfl) ⟨Nat.le_of_ble_eq_true rfl, Nat.le_of_ble_eq_true rfl⟩) hS (fun q _ h => hFc q h) hFc (fun r_3 u_ t_ H locs ht_ hvm_ hw_4 hB_ hz_ hk_ hS => ?_)
  obtain ⟨S_5, ad_6⟩ := u_
  dsimp only at hB_ hw_4
  obtain ⟨hP, -, hD1_⟩ := hB_
  rw [ht_] at hP
  have hD : va_D A (wX G ad_6 S_5) := hD1_.weaken (fun k q _ h => hFc q.1 h)
  obtain ⟨hX_7, hF_8_, hg_9_, hw_4⟩ := hw_4
  have hg_9 : ∀ j, j < 71 + fC S → ad_6 j = ad j := fun j hj => (hg_9_ j (Nat.lt_of_lt_of_le hj (Nat.add_le_add_left ((Fr.rf : Fr (fun j k => j = 61 ∨ (71 ≤ j ∧ (fK S j = 2 ∨ 71 + fC S ≤ j))) S S)).1 71))).trans ((fun _ _ => rfl) j hj)
  have hF_8 : Fr (fun j k => j = 61 ∨ (71 ≤ j ∧ (fK S j = 2 ∨ 71 + fC S ≤ j))) S S_5 := Fr.tr (Fr.rf : Fr (fun j k => j = 61 ∨ (71 ≤ j ∧ (fK S j = 2 ∨ 71 + fC S ≤ j))) S S) hF_8_ (fun j k hj h => by have hc_ := ((Fr.rf : Fr (fun j k => j = 61 ∨ (71 ≤ j ∧ (fK S j = 2 ∨ 71 + fC S ≤ j))) S S)).1; have hk_ := Fr.K ((Fr.rf : Fr (fun j k => j = 61 ∨ (71 ≤ j ∧ (fK S j = 2 ∨ 71 + fC S ≤ j))) S S)) hj; omega)
  have hl : lv_has ls 4 [(0, .ref (ad_6 (2 + qz))), (1, .ref (ad_6 i)), (2, .int (x)), (3, .ref (ad_6 61))] := by rw [hg_9_ (2 + qz) ((lt71 (by omega))), hg_9_ i ((lt71 (by omega))), hg_9_ 61 ((lt71 (by omega)))]; exact hl
  obtain ⟨ez_10, hw_4_⟩ := hw_4
  have eb_11 : EB z ([] ++ [51]) S S_5 := eb_app (eb_0 hzz) hzz (by omega) (by omega) (by simp only [List.length_append, List.length_cons, List.length_nil]; have := aL_len qz; have := bL_len qz; omega) (eb_1 ez_10 hw_4_ eb_3)
  refine lv_pop hx hb (fk_get fk_cX2_buys_0 4 rfl) rfl ?_
  refine lv_aload_n hx hb (fk_get fk_cX2_buys_0 5 rfl) rfl (lv_at hl 0 rfl) ?_
  refine lv_aload_n hx hb (fk_get fk_cX2_buys_0 6 rfl) rfl (lv_at hl 1 rfl) ?_
  refine lv_iload_n hx hb (fk_get fk_cX2_buys_0 7 rfl) rfl (lv_at hl 2 rfl) ?_
  refine lv_iconst (v := 1) hx hb (fk_get fk_cX2_buys_0 8 rfl) (by decide) ?_
  refine lv_iadd hx hb (fk_get fk_cX2_buys_0 9 rfl) ?_
  refine lv_aload_n hx hb (fk_get fk_cX2_buys_0 10 rfl) rfl (lv_at hl 3 rfl) ?_
  have hFc := va_self hD hS hA
  refine va_calli (va_runSU (C := r_k.1) (As := [.ref (ad_6 i), .int ((x + 1)), .ref (ad_6 61)]) (rest := []) (hK.1 (kcl qz) r_k hr_k).2 ⟨hx, hb, hml, hown, hT⟩ (c_x8_buys4E l G ad_6 S_5 H.size (qz) (i) ((z + 1)) ((x + 1)) (hq) (hpk) (ez_10) (by first | assumption | omega) (hX_7)) (tSU 3 hT m4_232 m7_184 m1_82 m4_233 m1_3 m4_234 rfl rfl (by decide +kernel) ⟨Nat.le_of_ble_eq_true rfl, Nat.le_of_ble_eq_true rfl⟩) ⟨PcE_blind, va_recv hK hP hr_k (ix_at (lt71 (by omega)) (cX_knd hq)), PcE_of hP hK hD hE hS (fun q h => hFc q h) _⟩ rfl rfl hl.1 rfl (lv_room (Nat.le_of_ble_eq_true rfl)) (fk_get fk_cX2_buys_0 11 rfl) ⟨(by show (0 + 1) + 4 ≤ 5; omega), (by show (0 + 64) + 256 ≤ 320; omega)⟩) hS (fun q _ h => hFc q h) hFc (fun r_12 u_ t_ H locs ht_ hvm_ hw_13 hB_ hz_ hk_ hS => ?_)
  obtain ⟨S_14, ad_15⟩ := u_
  dsimp only at hB_ hw_13
  obtain ⟨hP, -, hD1_⟩ := hB_
  rw [ht_] at hP
  have hD : va_D A (wX G ad_15 S_14) := hD1_.weaken (fun k q _ h => hFc q.1 h)
  obtain ⟨hX_16, hF_17_, hg_18_, hw_13⟩ := hw_13
  have hg_18 : ∀ j, j < 71 + fC S → ad_15 j = ad j := fun j hj => (hg_18_ j (Nat.lt_of_lt_of_le hj (Nat.add_le_add_left (hF_8).1 71))).trans (hg_9 j hj)
  have hF_17 : Fr (fun j k => j = 61 ∨ (71 ≤ j ∧ (fK S j = 2 ∨ 71 + fC S ≤ j))) S S_14 := Fr.tr hF_8 hF_17_ (fun j k hj h => by have hc_ := (hF_8).1; have hk_ := Fr.K hF_8 hj; omega)
  have hl : lv_has ls 4 [(0, .ref (ad_15 (2 + qz))), (1, .ref (ad_15 i)), (2, .int (x)), (3, .ref (ad_15 61))] := by rw [hg_18_ (2 + qz) ((lt71 (by omega))), hg_18_ i ((lt71 (by omega))), hg_18_ 61 ((lt71 (by omega)))]; exact hl
  obtain ⟨⟨z_19, bz_19, ez_19⟩, hvz_19, hez_19⟩ := hw_13
  try rw [show fF S_5 i 3 = fF S i 3 from Fr.F hF_8 (lt71 (by omega)) (fun q => by omega)] at hvz_19
  try rw [show fF S_5 i 0 = fF S i 0 from Fr.F hF_8 (lt71 (by omega)) (fun q => by omega)] at hvz_19
  subst hvz_19
  have eb_20 : EB z (([] ++ [51]) ++ ((20 :: 11 :: aL qz))) S S_14 := eb_app eb_11 ez_10 (by omega) (by omega) (by simp only [List.length_append, List.length_cons, List.length_nil]; have := aL_len qz; have := bL_len qz; omega) hez_19
  subst hQ
  have hpost : XI S_14 ∧ Fr (fun j k => j = 61 ∨ (71 ≤ j ∧ (fK S j = 2 ∨ 71 + fC S ≤ j))) S S_14 ∧ (∀ j, j < 71 + fC S → ad_15 j = ad j) ∧ (∃ z', z' ≤ z + 5 ∧ fF S_14 61 2 = nI z') ∧ (((aV (nI qz) (fF S i 3) (fF S i 0) (((x + 1))) - (fF S i 3)) ^^^ 6) : Int32) = (aV (nI qz) ((fF S i 3)) ((fF S i 0)) ((x + 1)) - ((fF S i 3))) ^^^ 6 ∧ EB z ((51 :: 20 :: 11 :: aL qz)) S S_14 := by
    exact ⟨hX_16, hF_17, hg_18, ⟨⟨_, by omega, ez_19⟩, by rfl, eb_20⟩⟩
  refine W.widen (k := 5) (n := 320) (by omega) (by omega) ?_
  exact W.iret (v := ((aV (nI qz) (fF S i 3) (fF S i 0) (((x + 1))) - (fF S i 3)) ^^^ 6)) hx hb hr (fun t_ ht_ hW_ => ⟨⟨((aV (nI qz) (fF S i 3) (fF S i 0) (((x + 1))) - (fF S i 3)) ^^^ 6), (S_14, ad_15), rfl, hpost, by rw [ht_]; exact hP, va_K.moved hW_.alike hK, hD⟩, hS.F ht_⟩) hS.2.2 (fk_get fk_cX2_buys_0 12 rfl)
set_option maxHeartbeats 800000 in
set_option maxRecDepth 100000 in
theorem c_x10_buysE (l : Launch) (G : GG) (ad : Nat → Nat) (S : FS) (sz : Nat) (qz i z : Nat) (x : Int32) (hq : qz < 7) (hpk : pk i = 7) (hzz : fF S 61 2 = nI z) (hzN : z + 5 ≤ 40) (hX : XI S) : Met l yX10_buys (Cond.code yX10_buys cX10_buys 4 (some .int) :: TBL) ({ frames := 16, cells := 5, slots := 320, locals := 506 } : Room) (PcE G (wX G ad S) sz [.ref (ad (2 + qz)), .ref (ad i), .int (x), .ref (ad 61)]) (va_Qi (fun (r : Int32) (u : FS × (Nat → Nat)) => XI u.1 ∧ Fr (fun j k => j = 61 ∨ (71 ≤ j ∧ (fK S j = 2 ∨ 71 + fC S ≤ j))) S u.1 ∧ (∀ j, j < 71 + fC S → u.2 j = ad j) ∧ (∃ z', z' ≤ z + 5 ∧ fF u.1 61 2 = nI z') ∧ r = aV (nI qz) ((fF S i 3)) ((fF S i 0)) x - ((fF S i 3)) + (2 + ((fF S i 0))) ∧ EB z ((70 :: (11 :: aL qz ++ [10]))) S u.1) (fun u t => BW G (va_A (wX G ad S) sz) (wX G u.2 u.1) t) (va_A (wX G ad S) sz)) 5 320 (va_A (wX G ad S) sz) := by
  refine Met.ofW (cc := cX10_buys) (maxL := 4) (ret := (some .int)) (by decide) rfl ?_
  intro p e s m args below meth c₀ s₁ B hml hv
  obtain ⟨rfl, hsz, hP, hK, hD0, hE⟩ := hv
  have hx := B.exec
  have hb := B.bytes
  have hr := B.returns
  have hT : ∀ w ∈ TBL, w.before ([.ref (ad (2 + qz)), .ref (ad i), .int (x), .ref (ad 61)] : List Value).toArray s = true := fun w h => atoms_spec (ws := Cond.code yX10_buys cX10_buys 4 (some .int) :: TBL) B.pre w (List.mem_cons_of_mem _ h)
  have hown : s.vm.findClass "LittleMore$Told" = some m.cls := findClass_of_methodNamed B.named
  have hlocks := B.notSynchronized
  subst hsz
  have hD := hD0.self (sz := s.heap.size)
  generalize hAe : va_A (wX G ad S) s.heap.size = A at hD hE ⊢
  have hA : ∀ q : Nat, s.heap.size ≤ q → A q := fun q h => by rw [← hAe]; exact Or.inr h
  have hS : va_S A s.heap s.heap [] := va_S.rf
  have hP : va_P G.1 vwCl (wX G ad S) s.heap := hP
  have hl := lv_entry ([.ref (ad (2 + qz)), .ref (ad i), .int (x), .ref (ad 61)]) (n := 4) (Nat.le_of_ble_eq_true rfl)
  rw [lg_entry_eq]
  generalize (lg_sl ([.ref (ad (2 + qz)), .ref (ad i), .int (x), .ref (ad 61)]) ++ List.replicate (4 - (lg_sl ([.ref (ad (2 + qz)), .ref (ad i), .int (x), .ref (ad 61)])).length) Slot.unset).toArray = ls at hl ⊢
  have hl : lv_has ls 4 [(0, .ref (ad (2 + qz))), (1, .ref (ad i)), (2, .int (x)), (3, .ref (ad 61))] := hl
  refine W_abs (fun Q hQ => ?_)
  generalize ([.ref (ad (2 + qz)), .ref (ad i), .int (x), .ref (ad 61)] : List Value).toArray = args at hT hQ ⊢
  have hb_i := pk7 hpk
  obtain ⟨r_k, hr_k⟩ := kcl_at hq
  refine lv_aload_n hx hb (fk_get fk_cX10_buys_0 0 rfl) rfl (lv_at hl 3 rfl) ?_
  refine lv_bipush (v := 70) hx hb (fk_get fk_cX10_buys_0 1 rfl) (by decide) ?_
  have hFc := va_self hD hS hA
  refine va_csq (W.runS (As := [.int (70)]) (rest := [.ref (ad 61)]) ⟨hx, hb, hml, hown, hT⟩ (c_jvalueOf l G ad S s.heap.size (70) (by first | assumption | omega) (hX)) (tS 1 hT m4_217 m4_130 m1_26 m4_131 rfl rfl (by decide +kernel) ⟨Nat.le_of_ble_eq_true rfl, Nat.le_of_ble_eq_true rfl⟩) ⟨PcE_blind, PcE_of hP hK hD hE hS (fun q h => hFc q h) _⟩ rfl rfl hl.1 rfl (lv_room (Nat.le_of_ble_eq_true rfl)) (fk_get fk_cX10_buys_0 2 rfl) ⟨Nat.zero_le _, Nat.zero_le _⟩) (fun r_1 hw_2 => ?_)
  try dsimp only at hw_2
  obtain ⟨jb_3, hb_3, eb_3, rfl⟩ := hw_2
  rw [show va_rf (some (G.2.2.2 jb_3)) = .ref (G.2.2.2 jb_3) from rfl]
  have hFc := va_self hD hS hA
  refine va_calli (va_runV (As := [.ref (G.2.2.2 jb_3)]) (rest := []) ⟨hx, hb, hml, hown, hT⟩ (c_jadd l G ad S s.heap.size (z) (jb_3) (hzz) (by first | assumption | omega) (hb_3) (hX)) (tV 1 hT m4_218 m4_150 m4_151 m1_15 m4_152 rfl rfl (by decide +kernel) ⟨Nat.le_of_ble_eq_true rfl, Nat.le_of_ble_eq_true rfl⟩) ⟨PcE_blind, va_recv hK hP (ci := 1) (q0 := 61) rfl (ix_at (lt71 (by omega)) (cX_lst G ad S)), PcE_of hP hK hD hE hS (fun q h => hFc q h) _⟩ rfl rfl hl.1 rfl (lv_room (Nat.le_of_ble_eq_true rfl)) (fk_get fk_cX10_buys_0 3 rfl) ⟨Nat.le_of_ble_eq_true rfl, Nat.le_of_ble_eq_true rfl⟩) hS (fun q _ h => hFc q h) hFc (fun r_3 u_ t_ H locs ht_ hvm_ hw_4 hB_ hz_ hk_ hS => ?_)
  obtain ⟨S_5, ad_6⟩ := u_
  dsimp only at hB_ hw_4
  obtain ⟨hP, -, hD1_⟩ := hB_
  rw [ht_] at hP
  have hD : va_D A (wX G ad_6 S_5) := hD1_.weaken (fun k q _ h => hFc q.1 h)
  obtain ⟨hX_7, hF_8_, hg_9_, hw_4⟩ := hw_4
  have hg_9 : ∀ j, j < 71 + fC S → ad_6 j = ad j := fun j hj => (hg_9_ j (Nat.lt_of_lt_of_le hj (Nat.add_le_add_left ((Fr.rf : Fr (fun j k => j = 61 ∨ (71 ≤ j ∧ (fK S j = 2 ∨ 71 + fC S ≤ j))) S S)).1 71))).trans ((fun _ _ => rfl) j hj)
  have hF_8 : Fr (fun j k => j = 61 ∨ (71 ≤ j ∧ (fK S j = 2 ∨ 71 + fC S ≤ j))) S S_5 := Fr.tr (Fr.rf : Fr (fun j k => j = 61 ∨ (71 ≤ j ∧ (fK S j = 2 ∨ 71 + fC S ≤ j))) S S) hF_8_ (fun j k hj h => by have hc_ := ((Fr.rf : Fr (fun j k => j = 61 ∨ (71 ≤ j ∧ (fK S j = 2 ∨ 71 + fC S ≤ j))) S S)).1; have hk_ := Fr.K ((Fr.rf : Fr (fun j k => j = 61 ∨ (71 ≤ j ∧ (fK S j = 2 ∨ 71 + fC S ≤ j))) S S)) hj; omega)
  have hl : lv_has ls 4 [(0, .ref (ad_6 (2 + qz))), (1, .ref (ad_6 i)), (2, .int (x)), (3, .ref (ad_6 61))] := by rw [hg_9_ (2 + qz) ((lt71 (by omega))), hg_9_ i ((lt71 (by omega))), hg_9_ 61 ((lt71 (by omega)))]; exact hl
  obtain ⟨ez_10, hw_4_⟩ := hw_4
  have eb_11 : EB z ([] ++ [70]) S S_5 := eb_app (eb_0 hzz) hzz (by omega) (by omega) (by simp only [List.length_append, List.length_cons, List.length_nil]; have := aL_len qz; have := bL_len qz; omega) (eb_1 ez_10 hw_4_ eb_3)
  refine lv_pop hx hb (fk_get fk_cX10_buys_0 4 rfl) rfl ?_
  refine lv_aload_n hx hb (fk_get fk_cX10_buys_0 5 rfl) rfl (lv_at hl 0 rfl) ?_
  refine lv_aload_n hx hb (fk_get fk_cX10_buys_0 6 rfl) rfl (lv_at hl 1 rfl) ?_
  refine lv_iload_n hx hb (fk_get fk_cX10_buys_0 7 rfl) rfl (lv_at hl 2 rfl) ?_
  refine lv_aload_n hx hb (fk_get fk_cX10_buys_0 8 rfl) rfl (lv_at hl 3 rfl) ?_
  have hFc := va_self hD hS hA
  refine va_calli (sx_run (C := r_k.1) (As := [.ref (ad_6 i), .int (x), .ref (ad_6 61)]) (rest := []) (hK.1 (kcl qz) r_k hr_k).2 ⟨hx, hb, hml, hown, hT⟩ (c_x5_buys3E l G ad_6 S_5 H.size (qz) (i) ((z + 1)) (x) (hq) (hpk) (ez_10) (by first | assumption | omega) (hX_7)) (sx_of 3 hT m5_4 m5_5 m1_98 m1_74 m4_225 m1_2 m5_7 rfl rfl rfl (by decide +kernel) ⟨Nat.le_of_ble_eq_true rfl, Nat.le_of_ble_eq_true rfl⟩) ⟨PcE_blind, va_recv hK hP hr_k (ix_at (lt71 (by omega)) (cX_knd hq)), PcE_of hP hK hD hE hS (fun q h => hFc q h) _⟩ rfl rfl hl.1 rfl (lv_room (Nat.le_of_ble_eq_true rfl)) (fk_get fk_cX10_buys_0 9 rfl) ⟨(by show (0 + 1) + 3 ≤ 5; omega), (by show (0 + 64) + 192 ≤ 320; omega)⟩) hS (fun q _ h => hFc q h) hFc (fun r_12 u_ t_ H locs ht_ hvm_ hw_13 hB_ hz_ hk_ hS => ?_)
  obtain ⟨S_14, ad_15⟩ := u_
  dsimp only at hB_ hw_13
  obtain ⟨hP, -, hD1_⟩ := hB_
  rw [ht_] at hP
  have hD : va_D A (wX G ad_15 S_14) := hD1_.weaken (fun k q _ h => hFc q.1 h)
  obtain ⟨hX_16, hF_17_, hg_18_, hw_13⟩ := hw_13
  have hg_18 : ∀ j, j < 71 + fC S → ad_15 j = ad j := fun j hj => (hg_18_ j (Nat.lt_of_lt_of_le hj (Nat.add_le_add_left (hF_8).1 71))).trans (hg_9 j hj)
  have hF_17 : Fr (fun j k => j = 61 ∨ (71 ≤ j ∧ (fK S j = 2 ∨ 71 + fC S ≤ j))) S S_14 := Fr.tr hF_8 hF_17_ (fun j k hj h => by have hc_ := (hF_8).1; have hk_ := Fr.K hF_8 hj; omega)
  have hl : lv_has ls 4 [(0, .ref (ad_15 (2 + qz))), (1, .ref (ad_15 i)), (2, .int (x)), (3, .ref (ad_15 61))] := by rw [hg_18_ (2 + qz) ((lt71 (by omega))), hg_18_ i ((lt71 (by omega))), hg_18_ 61 ((lt71 (by omega)))]; exact hl
  obtain ⟨⟨z_19, bz_19, ez_19⟩, hvz_19, hez_19⟩ := hw_13
  try rw [show fF S_5 i 3 = fF S i 3 from Fr.F hF_8 (lt71 (by omega)) (fun q => by omega)] at hvz_19
  try rw [show fF S_5 i 0 = fF S i 0 from Fr.F hF_8 (lt71 (by omega)) (fun q => by omega)] at hvz_19
  subst hvz_19
  have eb_20 : EB z (([] ++ [70]) ++ ((11 :: aL qz))) S S_14 := eb_app eb_11 ez_10 (by omega) (by omega) (by simp only [List.length_append, List.length_cons, List.length_nil]; have := aL_len qz; have := bL_len qz; omega) hez_19
  refine lv_aload_n hx hb (fk_get fk_cX10_buys_0 10 rfl) rfl (lv_at hl 0 rfl) ?_
  refine lv_aload_n hx hb (fk_get fk_cX10_buys_0 11 rfl) rfl (lv_at hl 1 rfl) ?_
  refine lv_iconst (v := 2) hx hb (fk_get fk_cX10_buys_0 12 rfl) (by decide) ?_
  refine lv_aload_n hx hb (fk_get fk_cX10_buys_0 13 rfl) rfl (lv_at hl 3 rfl) ?_
  have hFc := va_self hD hS hA
  refine va_calli (sx_run (C := r_k.1) (As := [.ref (ad_15 i), .int (2), .ref (ad_15 61)]) (rest := [.int ((aV (nI qz) (fF S i 3) (fF S i 0) x - (fF S i 3)))]) (hK.1 (kcl qz) r_k hr_k).2 ⟨hx, hb, hml, hown, hT⟩ (c_x5_asks1E l G ad_15 S_14 H.size (qz) (i) (z_19) (2) (hq) (hpk) (ez_19) (by first | assumption | omega) (hX_16)) (sx_of 3 hT m4_219 m4_220 m1_98 m1_74 m4_122 m1_2 m4_221 rfl rfl rfl (by decide +kernel) ⟨Nat.le_of_ble_eq_true rfl, Nat.le_of_ble_eq_true rfl⟩) ⟨PcE_blind, va_recv hK hP hr_k (ix_at (lt71 (by omega)) (cX_knd hq)), PcE_of hP hK hD hE hS (fun q h => hFc q h) _⟩ rfl rfl hl.1 rfl (lv_room (Nat.le_of_ble_eq_true rfl)) (fk_get fk_cX10_buys_0 14 rfl) ⟨(by show ((0 + 1) + 3) + 1 ≤ 5; omega), (by show ((0 + 64) + 192) + 64 ≤ 320; omega)⟩) hS (fun q _ h => hFc q h) hFc (fun r_21 u_ t_ H locs ht_ hvm_ hw_22 hB_ hz_ hk_ hS => ?_)
  obtain ⟨S_23, ad_24⟩ := u_
  dsimp only at hB_ hw_22
  obtain ⟨hP, -, hD1_⟩ := hB_
  rw [ht_] at hP
  have hD : va_D A (wX G ad_24 S_23) := hD1_.weaken (fun k q _ h => hFc q.1 h)
  obtain ⟨hX_25, hF_26_, hg_27_, hw_22⟩ := hw_22
  have hg_27 : ∀ j, j < 71 + fC S → ad_24 j = ad j := fun j hj => (hg_27_ j (Nat.lt_of_lt_of_le hj (Nat.add_le_add_left (hF_17).1 71))).trans (hg_18 j hj)
  have hF_26 : Fr (fun j k => j = 61 ∨ (71 ≤ j ∧ (fK S j = 2 ∨ 71 + fC S ≤ j))) S S_23 := Fr.tr hF_17 hF_26_ (fun j k hj h => by have hc_ := (hF_17).1; have hk_ := Fr.K hF_17 hj; omega)
  have hl : lv_has ls 4 [(0, .ref (ad_24 (2 + qz))), (1, .ref (ad_24 i)), (2, .int (x)), (3, .ref (ad_24 61))] := by rw [hg_27_ (2 + qz) ((lt71 (by omega))), hg_27_ i ((lt71 (by omega))), hg_27_ 61 ((lt71 (by omega)))]; exact hl
  obtain ⟨⟨z_28, bz_28, ez_28⟩, hvz_28, hez_28⟩ := hw_22
  try rw [show fF S_14 i 3 = fF S i 3 from Fr.F hF_17 (lt71 (by omega)) (fun q => by omega)] at hvz_28
  try rw [show fF S_14 i 0 = fF S i 0 from Fr.F hF_17 (lt71 (by omega)) (fun q => by omega)] at hvz_28
  subst hvz_28
  have eb_29 : EB z ((([] ++ [70]) ++ ((11 :: aL qz))) ++ [10]) S S_23 := eb_app eb_20 ez_19 (by omega) (by omega) (by simp only [List.length_append, List.length_cons, List.length_nil]; have := aL_len qz; have := bL_len qz; omega) hez_28
  refine lv_iadd hx hb (fk_get fk_cX10_buys_0 15 rfl) ?_
  subst hQ
  have hpost : XI S_23 ∧ Fr (fun j k => j = 61 ∨ (71 ≤ j ∧ (fK S j = 2 ∨ 71 + fC S ≤ j))) S S_23 ∧ (∀ j, j < 71 + fC S → ad_24 j = ad j) ∧ (∃ z', z' ≤ z + 5 ∧ fF S_23 61 2 = nI z') ∧ (((aV (nI qz) (fF S i 3) (fF S i 0) x - (fF S i 3)) + (2 + (fF S i 0))) : Int32) = aV (nI qz) ((fF S i 3)) ((fF S i 0)) x - ((fF S i 3)) + (2 + ((fF S i 0))) ∧ EB z ((70 :: (11 :: aL qz ++ [10]))) S S_23 := by
    exact ⟨hX_25, hF_26, hg_27, ⟨⟨_, by omega, ez_28⟩, by rfl, eb_29⟩⟩
  refine W.widen (k := 5) (n := 320) (by omega) (by omega) ?_
  exact W.iret (v := ((aV (nI qz) (fF S i 3) (fF S i 0) x - (fF S i 3)) + (2 + (fF S i 0)))) hx hb hr (fun t_ ht_ hW_ => ⟨⟨((aV (nI qz) (fF S i 3) (fF S i 0) x - (fF S i 3)) + (2 + (fF S i 0))), (S_23, ad_24), rfl, hpost, by rw [ht_]; exact hP, va_K.moved hW_.alike hK, hD⟩, hS.F ht_⟩) hS.2.2 (fk_get fk_cX10_buys_0 16 rfl)
set_option maxHeartbeats 800000 in
set_option maxRecDepth 100000 in
theorem c_x5_tells6E (l : Launch) (G : GG) (ad : Nat → Nat) (S : FS) (sz : Nat) (qz i z : Nat) (x : Int32) (hq : qz < 7) (hpk : pk i = 7) (hzz : fF S 61 2 = nI z) (hzN : z + 6 ≤ 40) (hX : XI S) : Met l yX5_tells (Cond.code yX5_tells cX5_tells 4 (some .int) :: TBL) ({ frames := 18, cells := 6, slots := 384, locals := 560 } : Room) (PcE G (wX G ad S) sz [.ref (ad (2 + qz)), .ref (ad i), .int (x), .ref (ad 61)]) (va_Qi (fun (r : Int32) (u : FS × (Nat → Nat)) => XI u.1 ∧ Fr (fun j k => j = 61 ∨ (71 ≤ j ∧ (fK S j = 2 ∨ 71 + fC S ≤ j))) S u.1 ∧ (∀ j, j < 71 + fC S → u.2 j = ad j) ∧ (∃ z', z' ≤ z + 6 ∧ fF u.1 61 2 = nI z') ∧ r = bV (nI qz) ((fF S i 3)) ((fF S i 0)) x * 2 ∧ EB z ((12 :: bL qz)) S u.1) (fun u t => BW G (va_A (wX G ad S) sz) (wX G u.2 u.1) t) (va_A (wX G ad S) sz)) 6 384 (va_A (wX G ad S) sz) := by
  refine Met.ofW (cc := cX5_tells) (maxL := 4) (ret := (some .int)) (by decide) rfl ?_
  intro p e s m args below meth c₀ s₁ B hml hv
  obtain ⟨rfl, hsz, hP, hK, hD0, hE⟩ := hv
  have hx := B.exec
  have hb := B.bytes
  have hr := B.returns
  have hT : ∀ w ∈ TBL, w.before ([.ref (ad (2 + qz)), .ref (ad i), .int (x), .ref (ad 61)] : List Value).toArray s = true := fun w h => atoms_spec (ws := Cond.code yX5_tells cX5_tells 4 (some .int) :: TBL) B.pre w (List.mem_cons_of_mem _ h)
  have hown : s.vm.findClass "LittleMore$Kind" = some m.cls := findClass_of_methodNamed B.named
  have hlocks := B.notSynchronized
  subst hsz
  have hD := hD0.self (sz := s.heap.size)
  generalize hAe : va_A (wX G ad S) s.heap.size = A at hD hE ⊢
  have hA : ∀ q : Nat, s.heap.size ≤ q → A q := fun q h => by rw [← hAe]; exact Or.inr h
  have hS : va_S A s.heap s.heap [] := va_S.rf
  have hP : va_P G.1 vwCl (wX G ad S) s.heap := hP
  have hl := lv_entry ([.ref (ad (2 + qz)), .ref (ad i), .int (x), .ref (ad 61)]) (n := 4) (Nat.le_of_ble_eq_true rfl)
  rw [lg_entry_eq]
  generalize (lg_sl ([.ref (ad (2 + qz)), .ref (ad i), .int (x), .ref (ad 61)]) ++ List.replicate (4 - (lg_sl ([.ref (ad (2 + qz)), .ref (ad i), .int (x), .ref (ad 61)])).length) Slot.unset).toArray = ls at hl ⊢
  have hl : lv_has ls 4 [(0, .ref (ad (2 + qz))), (1, .ref (ad i)), (2, .int (x)), (3, .ref (ad 61))] := hl
  refine W_abs (fun Q hQ => ?_)
  generalize ([.ref (ad (2 + qz)), .ref (ad i), .int (x), .ref (ad 61)] : List Value).toArray = args at hT hQ ⊢
  have hb_i := pk7 hpk
  obtain ⟨r_k, hr_k⟩ := kcl_at hq
  refine lv_aload_n hx hb (fk_get fk_cX5_tells_0 0 rfl) rfl (lv_at hl 3 rfl) ?_
  refine lv_bipush (v := 12) hx hb (fk_get fk_cX5_tells_0 1 rfl) (by decide) ?_
  have hFc := va_self hD hS hA
  refine va_csq (W.runS (As := [.int (12)]) (rest := [.ref (ad 61)]) ⟨hx, hb, hml, hown, hT⟩ (c_jvalueOf l G ad S s.heap.size (12) (by first | assumption | omega) (hX)) (tS 1 hT m4_222 m4_130 m1_26 m4_131 rfl rfl (by decide +kernel) ⟨Nat.le_of_ble_eq_true rfl, Nat.le_of_ble_eq_true rfl⟩) ⟨PcE_blind, PcE_of hP hK hD hE hS (fun q h => hFc q h) _⟩ rfl rfl hl.1 rfl (lv_room (Nat.le_of_ble_eq_true rfl)) (fk_get fk_cX5_tells_0 2 rfl) ⟨Nat.zero_le _, Nat.zero_le _⟩) (fun r_1 hw_2 => ?_)
  try dsimp only at hw_2
  obtain ⟨jb_3, hb_3, eb_3, rfl⟩ := hw_2
  rw [show va_rf (some (G.2.2.2 jb_3)) = .ref (G.2.2.2 jb_3) from rfl]
  have hFc := va_self hD hS hA
  refine va_calli (va_runV (As := [.ref (G.2.2.2 jb_3)]) (rest := []) ⟨hx, hb, hml, hown, hT⟩ (c_jadd l G ad S s.heap.size (z) (jb_3) (hzz) (by first | assumption | omega) (hb_3) (hX)) (tV 1 hT m4_223 m4_150 m4_151 m1_15 m4_152 rfl rfl (by decide +kernel) ⟨Nat.le_of_ble_eq_true rfl, Nat.le_of_ble_eq_true rfl⟩) ⟨PcE_blind, va_recv hK hP (ci := 1) (q0 := 61) rfl (ix_at (lt71 (by omega)) (cX_lst G ad S)), PcE_of hP hK hD hE hS (fun q h => hFc q h) _⟩ rfl rfl hl.1 rfl (lv_room (Nat.le_of_ble_eq_true rfl)) (fk_get fk_cX5_tells_0 3 rfl) ⟨Nat.le_of_ble_eq_true rfl, Nat.le_of_ble_eq_true rfl⟩) hS (fun q _ h => hFc q h) hFc (fun r_3 u_ t_ H locs ht_ hvm_ hw_4 hB_ hz_ hk_ hS => ?_)
  obtain ⟨S_5, ad_6⟩ := u_
  dsimp only at hB_ hw_4
  obtain ⟨hP, -, hD1_⟩ := hB_
  rw [ht_] at hP
  have hD : va_D A (wX G ad_6 S_5) := hD1_.weaken (fun k q _ h => hFc q.1 h)
  obtain ⟨hX_7, hF_8_, hg_9_, hw_4⟩ := hw_4
  have hg_9 : ∀ j, j < 71 + fC S → ad_6 j = ad j := fun j hj => (hg_9_ j (Nat.lt_of_lt_of_le hj (Nat.add_le_add_left ((Fr.rf : Fr (fun j k => j = 61 ∨ (71 ≤ j ∧ (fK S j = 2 ∨ 71 + fC S ≤ j))) S S)).1 71))).trans ((fun _ _ => rfl) j hj)
  have hF_8 : Fr (fun j k => j = 61 ∨ (71 ≤ j ∧ (fK S j = 2 ∨ 71 + fC S ≤ j))) S S_5 := Fr.tr (Fr.rf : Fr (fun j k => j = 61 ∨ (71 ≤ j ∧ (fK S j = 2 ∨ 71 + fC S ≤ j))) S S) hF_8_ (fun j k hj h => by have hc_ := ((Fr.rf : Fr (fun j k => j = 61 ∨ (71 ≤ j ∧ (fK S j = 2 ∨ 71 + fC S ≤ j))) S S)).1; have hk_ := Fr.K ((Fr.rf : Fr (fun j k => j = 61 ∨ (71 ≤ j ∧ (fK S j = 2 ∨ 71 + fC S ≤ j))) S S)) hj; omega)
  have hl : lv_has ls 4 [(0, .ref (ad_6 (2 + qz))), (1, .ref (ad_6 i)), (2, .int (x)), (3, .ref (ad_6 61))] := by rw [hg_9_ (2 + qz) ((lt71 (by omega))), hg_9_ i ((lt71 (by omega))), hg_9_ 61 ((lt71 (by omega)))]; exact hl
  obtain ⟨ez_10, hw_4_⟩ := hw_4
  have eb_11 : EB z ([] ++ [12]) S S_5 := eb_app (eb_0 hzz) hzz (by omega) (by omega) (by simp only [List.length_append, List.length_cons, List.length_nil]; have := aL_len qz; have := bL_len qz; omega) (eb_1 ez_10 hw_4_ eb_3)
  refine lv_pop hx hb (fk_get fk_cX5_tells_0 4 rfl) rfl ?_
  refine lv_aload_n hx hb (fk_get fk_cX5_tells_0 5 rfl) rfl (lv_at hl 0 rfl) ?_
  refine lv_aload_n hx hb (fk_get fk_cX5_tells_0 6 rfl) rfl (lv_at hl 1 rfl) ?_
  refine lv_iload_n hx hb (fk_get fk_cX5_tells_0 7 rfl) rfl (lv_at hl 2 rfl) ?_
  refine lv_aload_n hx hb (fk_get fk_cX5_tells_0 8 rfl) rfl (lv_at hl 3 rfl) ?_
  have kk_k_12 : ∀ (rk_12 : Int32) (Sk_12 : FS) (adk_12 : Nat → Nat) (Hk_12 : Heap) (locsk_12 : List Loc) (zk_12 : Nat) (ls : Array Slot), XI Sk_12 → Fr (fun j k => j = 61 ∨ (71 ≤ j ∧ (fK S j = 2 ∨ 71 + fC S ≤ j))) S Sk_12 → (∀ j, j < 71 + fC S → adk_12 j = ad j) → zk_12 ≤ (z + 1) + 5 → fF Sk_12 61 2 = nI zk_12 → rk_12 = (bV (nI qz) (fF S i 3) (fF S i 0) x) → EB (z + 1) (bL qz) S_5 Sk_12 → va_P G.1 vwCl (wX G adk_12 Sk_12) Hk_12 → va_D A (wX G adk_12 Sk_12) → va_S A s.heap Hk_12 locsk_12 → lv_has ls 4 [(0, .ref (adk_12 (2 + qz))), (1, .ref (adk_12 i)), (2, .int (x)), (3, .ref (adk_12 61))] → W p l e ({ frames := 18, cells := 6, slots := 384, locals := 560 } : Room) s m args below meth c₀ Hk_12 locsk_12 ((0 + 1) + 5) ((0 + 64) + 320) Q (F0 m 17 ls [.int (rk_12)]) := by
    intro rk_12 Sk_12 adk_12 Hk_12 locsk_12 zk_12 ls hXk_12 hFk_12 hgk_12 bzk_12 ezk_12 hvk_12 hek_12 hP hD hS hl
    subst hvk_12
    have eb_13 : EB z (([] ++ [12]) ++ bL qz) S Sk_12 := eb_app eb_11 ez_10 (by omega) (by omega) (by simp only [List.length_append, List.length_cons, List.length_nil]; have := aL_len qz; have := bL_len qz; omega) hek_12
    refine lv_iconst (v := 2) hx hb (fk_get fk_cX5_tells_0 10 rfl) (by decide) ?_
    refine lv_imul hx hb (fk_get fk_cX5_tells_0 11 rfl) ?_
    subst hQ
    have hpost : XI Sk_12 ∧ Fr (fun j k => j = 61 ∨ (71 ≤ j ∧ (fK S j = 2 ∨ 71 + fC S ≤ j))) S Sk_12 ∧ (∀ j, j < 71 + fC S → adk_12 j = ad j) ∧ (∃ z', z' ≤ z + 6 ∧ fF Sk_12 61 2 = nI z') ∧ (((bV (nI qz) (fF S i 3) (fF S i 0) x) * 2) : Int32) = bV (nI qz) ((fF S i 3)) ((fF S i 0)) x * 2 ∧ EB z ((12 :: bL qz)) S Sk_12 := by
      exact ⟨hXk_12, hFk_12, hgk_12, ⟨⟨_, by omega, ezk_12⟩, by rfl, eb_13⟩⟩
    refine W.widen (k := 6) (n := 384) (by omega) (by omega) ?_
    exact W.iret (v := ((bV (nI qz) (fF S i 3) (fF S i 0) x) * 2)) hx hb hr (fun t_ ht_ hW_ => ⟨⟨((bV (nI qz) (fF S i 3) (fF S i 0) x) * 2), (Sk_12, adk_12), rfl, hpost, by rw [ht_]; exact hP, va_K.moved hW_.alike hK, hD⟩, hS.F ht_⟩) hS.2.2 (fk_get fk_cX5_tells_0 12 rfl)
  have hFc := va_self hD hS hA
  rcases kq7 hq with rfl | rfl | rfl | rfl | rfl | rfl | rfl
  · refine va_calli (va_runU (As := [.ref (ad_6 i), .int (x), .ref (ad_6 61)]) (rest := []) ⟨hx, hb, hml, hown, hT⟩ (c_x5_buysE l G ad_6 S_5 H.size (0) (i) ((z + 1)) (x) ((by omega : 0 < 7)) (hpk) (ez_10) (by first | assumption | omega) (hX_7)) (tU 3 hT m5_35 m4_227 m4_226 m4_225 m1_2 m5_7 rfl rfl rfl (by decide +kernel) ⟨Nat.le_of_ble_eq_true rfl, Nat.le_of_ble_eq_true rfl⟩) ⟨PcE_blind, va_recv hK hP (ci := 7) (q0 := 2 + 0) rfl (ix_at (lt71 (by omega)) (cX_knd (by omega))), PcE_of hP hK hD hE hS (fun q h => hFc q h) _⟩ rfl rfl hl.1 rfl (lv_room (Nat.le_of_ble_eq_true rfl)) (fk_get fk_cX5_tells_0 9 rfl) ⟨(by show (0 + 1) + 5 ≤ 6; omega), (by show (0 + 64) + 320 ≤ 384; omega)⟩) hS (fun q _ h => hFc q h) hFc (fun r_ u_ t_ H locs ht_ hvm_ hw_ hB_ hz_ hk_ hS => ?_)
    obtain ⟨S1_, ad1_⟩ := u_
    dsimp only at hB_ hw_
    obtain ⟨hP, -, hD1_⟩ := hB_
    rw [ht_] at hP
    have hD : va_D A (wX G ad1_ S1_) := hD1_.weaken (fun k q _ h => hFc q.1 h)
    obtain ⟨hX1_, hF1_, hg1_, ⟨z1_, bz1_, ez1_⟩, hv1_, he1_⟩ := hw_
    try rw [show fF S_5 i 3 = fF S i 3 from Fr.F hF_8 (lt71 (by omega)) (fun q => by omega)] at hv1_
    try rw [show fF S_5 i 0 = fF S i 0 from Fr.F hF_8 (lt71 (by omega)) (fun q => by omega)] at hv1_
    have hl : lv_has ls 4 [(0, .ref (ad1_ (2 + 0))), (1, .ref (ad1_ i)), (2, .int (x)), (3, .ref (ad1_ 61))] := by rw [hg1_ (2 + 0) ((lt71 (by omega))), hg1_ i ((lt71 (by omega))), hg1_ 61 ((lt71 (by omega)))]; exact hl
    exact kk_k_12 r_ S1_ ad1_ H locs z1_ ls hX1_ (Fr.tr hF_8 hF1_ (fun j k hj h => by have hc_ := (hF_8).1; have hk_ := Fr.K hF_8 hj; omega)) (fun j hj => (hg1_ j (Nat.lt_of_lt_of_le hj (Nat.add_le_add_left (hF_8).1 71))).trans (hg_9 j hj)) (by omega) ez1_ (hv1_.trans (bV_0 _ _ _).symm) he1_ hP hD hS hl
  · refine va_calli (va_runU (As := [.ref (ad_6 i), .int (x), .ref (ad_6 61)]) (rest := []) ⟨hx, hb, hml, hown, hT⟩ (c_x8_buysE l G ad_6 S_5 H.size (1) (i) ((z + 1)) (x) ((by omega : 1 < 7)) (hpk) (ez_10) (by first | assumption | omega) (hX_7)) (tO 3 hT m5_35 m4_227 m4_225 m5_0 m4_233 m1_3 m4_234 m5_7 rfl rfl (by decide +kernel) ⟨Nat.le_of_ble_eq_true rfl, Nat.le_of_ble_eq_true rfl⟩) ⟨PcE_blind, va_recv hK hP (ci := 10) (q0 := 2 + 1) rfl (ix_at (lt71 (by omega)) (cX_knd (by omega))), PcE_of hP hK hD hE hS (fun q h => hFc q h) _⟩ rfl rfl hl.1 rfl (lv_room (Nat.le_of_ble_eq_true rfl)) (fk_get fk_cX5_tells_0 9 rfl) ⟨(by show (0 + 1) + 5 ≤ 6; omega), (by show (0 + 64) + 320 ≤ 384; omega)⟩) hS (fun q _ h => hFc q h) hFc (fun r_ u_ t_ H locs ht_ hvm_ hw_ hB_ hz_ hk_ hS => ?_)
    obtain ⟨S1_, ad1_⟩ := u_
    dsimp only at hB_ hw_
    obtain ⟨hP, -, hD1_⟩ := hB_
    rw [ht_] at hP
    have hD : va_D A (wX G ad1_ S1_) := hD1_.weaken (fun k q _ h => hFc q.1 h)
    obtain ⟨hX1_, hF1_, hg1_, ⟨z1_, bz1_, ez1_⟩, hv1_, he1_⟩ := hw_
    try rw [show fF S_5 i 3 = fF S i 3 from Fr.F hF_8 (lt71 (by omega)) (fun q => by omega)] at hv1_
    try rw [show fF S_5 i 0 = fF S i 0 from Fr.F hF_8 (lt71 (by omega)) (fun q => by omega)] at hv1_
    have hl : lv_has ls 4 [(0, .ref (ad1_ (2 + 1))), (1, .ref (ad1_ i)), (2, .int (x)), (3, .ref (ad1_ 61))] := by rw [hg1_ (2 + 1) ((lt71 (by omega))), hg1_ i ((lt71 (by omega))), hg1_ 61 ((lt71 (by omega)))]; exact hl
    exact kk_k_12 r_ S1_ ad1_ H locs z1_ ls hX1_ (Fr.tr hF_8 hF1_ (fun j k hj h => by have hc_ := (hF_8).1; have hk_ := Fr.K hF_8 hj; omega)) (fun j hj => (hg1_ j (Nat.lt_of_lt_of_le hj (Nat.add_le_add_left (hF_8).1 71))).trans (hg_9 j hj)) (by omega) ez1_ (hv1_.trans (bV_1 _ _ _).symm) he1_ hP hD hS hl
  · refine va_calli (va_runU (As := [.ref (ad_6 i), .int (x), .ref (ad_6 61)]) (rest := []) ⟨hx, hb, hml, hown, hT⟩ (c_x5_buysE l G ad_6 S_5 H.size (2) (i) ((z + 1)) (x) ((by omega : 2 < 7)) (hpk) (ez_10) (by first | assumption | omega) (hX_7)) (tU 3 hT m5_35 m4_227 m4_238 m4_225 m1_2 m5_7 rfl rfl rfl (by decide +kernel) ⟨Nat.le_of_ble_eq_true rfl, Nat.le_of_ble_eq_true rfl⟩) ⟨PcE_blind, va_recv hK hP (ci := 6) (q0 := 2 + 2) rfl (ix_at (lt71 (by omega)) (cX_knd (by omega))), PcE_of hP hK hD hE hS (fun q h => hFc q h) _⟩ rfl rfl hl.1 rfl (lv_room (Nat.le_of_ble_eq_true rfl)) (fk_get fk_cX5_tells_0 9 rfl) ⟨(by show (0 + 1) + 5 ≤ 6; omega), (by show (0 + 64) + 320 ≤ 384; omega)⟩) hS (fun q _ h => hFc q h) hFc (fun r_ u_ t_ H locs ht_ hvm_ hw_ hB_ hz_ hk_ hS => ?_)
    obtain ⟨S1_, ad1_⟩ := u_
    dsimp only at hB_ hw_
    obtain ⟨hP, -, hD1_⟩ := hB_
    rw [ht_] at hP
    have hD : va_D A (wX G ad1_ S1_) := hD1_.weaken (fun k q _ h => hFc q.1 h)
    obtain ⟨hX1_, hF1_, hg1_, ⟨z1_, bz1_, ez1_⟩, hv1_, he1_⟩ := hw_
    try rw [show fF S_5 i 3 = fF S i 3 from Fr.F hF_8 (lt71 (by omega)) (fun q => by omega)] at hv1_
    try rw [show fF S_5 i 0 = fF S i 0 from Fr.F hF_8 (lt71 (by omega)) (fun q => by omega)] at hv1_
    have hl : lv_has ls 4 [(0, .ref (ad1_ (2 + 2))), (1, .ref (ad1_ i)), (2, .int (x)), (3, .ref (ad1_ 61))] := by rw [hg1_ (2 + 2) ((lt71 (by omega))), hg1_ i ((lt71 (by omega))), hg1_ 61 ((lt71 (by omega)))]; exact hl
    exact kk_k_12 r_ S1_ ad1_ H locs z1_ ls hX1_ (Fr.tr hF_8 hF1_ (fun j k hj h => by have hc_ := (hF_8).1; have hk_ := Fr.K hF_8 hj; omega)) (fun j hj => (hg1_ j (Nat.lt_of_lt_of_le hj (Nat.add_le_add_left (hF_8).1 71))).trans (hg_9 j hj)) (by omega) ez1_ (hv1_.trans (bV_2 _ _ _).symm) he1_ hP hD hS hl
  · refine va_calli (va_runU (As := [.ref (ad_6 i), .int (x), .ref (ad_6 61)]) (rest := []) ⟨hx, hb, hml, hown, hT⟩ (c_x5_buysE l G ad_6 S_5 H.size (3) (i) ((z + 1)) (x) ((by omega : 3 < 7)) (hpk) (ez_10) (by first | assumption | omega) (hX_7)) (tU 3 hT m5_35 m4_227 m4_228 m4_225 m1_2 m5_7 rfl rfl rfl (by decide +kernel) ⟨Nat.le_of_ble_eq_true rfl, Nat.le_of_ble_eq_true rfl⟩) ⟨PcE_blind, va_recv hK hP (ci := 2) (q0 := 2 + 3) rfl (ix_at (lt71 (by omega)) (cX_knd (by omega))), PcE_of hP hK hD hE hS (fun q h => hFc q h) _⟩ rfl rfl hl.1 rfl (lv_room (Nat.le_of_ble_eq_true rfl)) (fk_get fk_cX5_tells_0 9 rfl) ⟨(by show (0 + 1) + 5 ≤ 6; omega), (by show (0 + 64) + 320 ≤ 384; omega)⟩) hS (fun q _ h => hFc q h) hFc (fun r_ u_ t_ H locs ht_ hvm_ hw_ hB_ hz_ hk_ hS => ?_)
    obtain ⟨S1_, ad1_⟩ := u_
    dsimp only at hB_ hw_
    obtain ⟨hP, -, hD1_⟩ := hB_
    rw [ht_] at hP
    have hD : va_D A (wX G ad1_ S1_) := hD1_.weaken (fun k q _ h => hFc q.1 h)
    obtain ⟨hX1_, hF1_, hg1_, ⟨z1_, bz1_, ez1_⟩, hv1_, he1_⟩ := hw_
    try rw [show fF S_5 i 3 = fF S i 3 from Fr.F hF_8 (lt71 (by omega)) (fun q => by omega)] at hv1_
    try rw [show fF S_5 i 0 = fF S i 0 from Fr.F hF_8 (lt71 (by omega)) (fun q => by omega)] at hv1_
    have hl : lv_has ls 4 [(0, .ref (ad1_ (2 + 3))), (1, .ref (ad1_ i)), (2, .int (x)), (3, .ref (ad1_ 61))] := by rw [hg1_ (2 + 3) ((lt71 (by omega))), hg1_ i ((lt71 (by omega))), hg1_ 61 ((lt71 (by omega)))]; exact hl
    exact kk_k_12 r_ S1_ ad1_ H locs z1_ ls hX1_ (Fr.tr hF_8 hF1_ (fun j k hj h => by have hc_ := (hF_8).1; have hk_ := Fr.K hF_8 hj; omega)) (fun j hj => (hg1_ j (Nat.lt_of_lt_of_le hj (Nat.add_le_add_left (hF_8).1 71))).trans (hg_9 j hj)) (by omega) ez1_ (hv1_.trans (bV_3 _ _ _).symm) he1_ hP hD hS hl
  · refine va_calli (va_runU (As := [.ref (ad_6 i), .int (x), .ref (ad_6 61)]) (rest := []) ⟨hx, hb, hml, hown, hT⟩ (c_x2_buysE l G ad_6 S_5 H.size (4) (i) ((z + 1)) (x) ((by omega : 4 < 7)) (hpk) (ez_10) (by first | assumption | omega) (hX_7)) (tO 3 hT m5_35 m4_227 m4_225 m4_229 m4_230 m1_6 m4_231 m5_7 rfl rfl (by decide +kernel) ⟨Nat.le_of_ble_eq_true rfl, Nat.le_of_ble_eq_true rfl⟩) ⟨PcE_blind, va_recv hK hP (ci := 4) (q0 := 2 + 4) rfl (ix_at (lt71 (by omega)) (cX_knd (by omega))), PcE_of hP hK hD hE hS (fun q h => hFc q h) _⟩ rfl rfl hl.1 rfl (lv_room (Nat.le_of_ble_eq_true rfl)) (fk_get fk_cX5_tells_0 9 rfl) ⟨(by show (0 + 1) + 5 ≤ 6; omega), (by show (0 + 64) + 320 ≤ 384; omega)⟩) hS (fun q _ h => hFc q h) hFc (fun r_ u_ t_ H locs ht_ hvm_ hw_ hB_ hz_ hk_ hS => ?_)
    obtain ⟨S1_, ad1_⟩ := u_
    dsimp only at hB_ hw_
    obtain ⟨hP, -, hD1_⟩ := hB_
    rw [ht_] at hP
    have hD : va_D A (wX G ad1_ S1_) := hD1_.weaken (fun k q _ h => hFc q.1 h)
    obtain ⟨hX1_, hF1_, hg1_, ⟨z1_, bz1_, ez1_⟩, hv1_, he1_⟩ := hw_
    try rw [show fF S_5 i 3 = fF S i 3 from Fr.F hF_8 (lt71 (by omega)) (fun q => by omega)] at hv1_
    try rw [show fF S_5 i 0 = fF S i 0 from Fr.F hF_8 (lt71 (by omega)) (fun q => by omega)] at hv1_
    have hl : lv_has ls 4 [(0, .ref (ad1_ (2 + 4))), (1, .ref (ad1_ i)), (2, .int (x)), (3, .ref (ad1_ 61))] := by rw [hg1_ (2 + 4) ((lt71 (by omega))), hg1_ i ((lt71 (by omega))), hg1_ 61 ((lt71 (by omega)))]; exact hl
    exact kk_k_12 r_ S1_ ad1_ H locs z1_ ls hX1_ (Fr.tr hF_8 hF1_ (fun j k hj h => by have hc_ := (hF_8).1; have hk_ := Fr.K hF_8 hj; omega)) (fun j hj => (hg1_ j (Nat.lt_of_lt_of_le hj (Nat.add_le_add_left (hF_8).1 71))).trans (hg_9 j hj)) (by omega) ez1_ (hv1_.trans (bV_4 _ _ _).symm) he1_ hP hD hS hl
  · refine va_calli (va_runU (As := [.ref (ad_6 i), .int (x), .ref (ad_6 61)]) (rest := []) ⟨hx, hb, hml, hown, hT⟩ (c_x5_buysE l G ad_6 S_5 H.size (5) (i) ((z + 1)) (x) ((by omega : 5 < 7)) (hpk) (ez_10) (by first | assumption | omega) (hX_7)) (tU 3 hT m5_35 m4_227 m4_239 m4_225 m1_2 m5_7 rfl rfl rfl (by decide +kernel) ⟨Nat.le_of_ble_eq_true rfl, Nat.le_of_ble_eq_true rfl⟩) ⟨PcE_blind, va_recv hK hP (ci := 8) (q0 := 2 + 5) rfl (ix_at (lt71 (by omega)) (cX_knd (by omega))), PcE_of hP hK hD hE hS (fun q h => hFc q h) _⟩ rfl rfl hl.1 rfl (lv_room (Nat.le_of_ble_eq_true rfl)) (fk_get fk_cX5_tells_0 9 rfl) ⟨(by show (0 + 1) + 5 ≤ 6; omega), (by show (0 + 64) + 320 ≤ 384; omega)⟩) hS (fun q _ h => hFc q h) hFc (fun r_ u_ t_ H locs ht_ hvm_ hw_ hB_ hz_ hk_ hS => ?_)
    obtain ⟨S1_, ad1_⟩ := u_
    dsimp only at hB_ hw_
    obtain ⟨hP, -, hD1_⟩ := hB_
    rw [ht_] at hP
    have hD : va_D A (wX G ad1_ S1_) := hD1_.weaken (fun k q _ h => hFc q.1 h)
    obtain ⟨hX1_, hF1_, hg1_, ⟨z1_, bz1_, ez1_⟩, hv1_, he1_⟩ := hw_
    try rw [show fF S_5 i 3 = fF S i 3 from Fr.F hF_8 (lt71 (by omega)) (fun q => by omega)] at hv1_
    try rw [show fF S_5 i 0 = fF S i 0 from Fr.F hF_8 (lt71 (by omega)) (fun q => by omega)] at hv1_
    have hl : lv_has ls 4 [(0, .ref (ad1_ (2 + 5))), (1, .ref (ad1_ i)), (2, .int (x)), (3, .ref (ad1_ 61))] := by rw [hg1_ (2 + 5) ((lt71 (by omega))), hg1_ i ((lt71 (by omega))), hg1_ 61 ((lt71 (by omega)))]; exact hl
    exact kk_k_12 r_ S1_ ad1_ H locs z1_ ls hX1_ (Fr.tr hF_8 hF1_ (fun j k hj h => by have hc_ := (hF_8).1; have hk_ := Fr.K hF_8 hj; omega)) (fun j hj => (hg1_ j (Nat.lt_of_lt_of_le hj (Nat.add_le_add_left (hF_8).1 71))).trans (hg_9 j hj)) (by omega) ez1_ (hv1_.trans (bV_5 _ _ _).symm) he1_ hP hD hS hl
  · refine va_calli (va_runU (As := [.ref (ad_6 i), .int (x), .ref (ad_6 61)]) (rest := []) ⟨hx, hb, hml, hown, hT⟩ (c_x10_buysE l G ad_6 S_5 H.size (6) (i) ((z + 1)) (x) ((by omega : 6 < 7)) (hpk) (ez_10) (by first | assumption | omega) (hX_7)) (tO 3 hT m5_35 m4_227 m4_225 m5_1 m5_2 m1_8 m5_3 m5_7 rfl rfl (by decide +kernel) ⟨Nat.le_of_ble_eq_true rfl, Nat.le_of_ble_eq_true rfl⟩) ⟨PcE_blind, va_recv hK hP (ci := 12) (q0 := 2 + 6) rfl (ix_at (lt71 (by omega)) (cX_knd (by omega))), PcE_of hP hK hD hE hS (fun q h => hFc q h) _⟩ rfl rfl hl.1 rfl (lv_room (Nat.le_of_ble_eq_true rfl)) (fk_get fk_cX5_tells_0 9 rfl) ⟨(by show (0 + 1) + 5 ≤ 6; omega), (by show (0 + 64) + 320 ≤ 384; omega)⟩) hS (fun q _ h => hFc q h) hFc (fun r_ u_ t_ H locs ht_ hvm_ hw_ hB_ hz_ hk_ hS => ?_)
    obtain ⟨S1_, ad1_⟩ := u_
    dsimp only at hB_ hw_
    obtain ⟨hP, -, hD1_⟩ := hB_
    rw [ht_] at hP
    have hD : va_D A (wX G ad1_ S1_) := hD1_.weaken (fun k q _ h => hFc q.1 h)
    obtain ⟨hX1_, hF1_, hg1_, ⟨z1_, bz1_, ez1_⟩, hv1_, he1_⟩ := hw_
    try rw [show fF S_5 i 3 = fF S i 3 from Fr.F hF_8 (lt71 (by omega)) (fun q => by omega)] at hv1_
    try rw [show fF S_5 i 0 = fF S i 0 from Fr.F hF_8 (lt71 (by omega)) (fun q => by omega)] at hv1_
    have hl : lv_has ls 4 [(0, .ref (ad1_ (2 + 6))), (1, .ref (ad1_ i)), (2, .int (x)), (3, .ref (ad1_ 61))] := by rw [hg1_ (2 + 6) ((lt71 (by omega))), hg1_ i ((lt71 (by omega))), hg1_ 61 ((lt71 (by omega)))]; exact hl
    exact kk_k_12 r_ S1_ ad1_ H locs z1_ ls hX1_ (Fr.tr hF_8 hF1_ (fun j k hj h => by have hc_ := (hF_8).1; have hk_ := Fr.K hF_8 hj; omega)) (fun j hj => (hg1_ j (Nat.lt_of_lt_of_le hj (Nat.add_le_add_left (hF_8).1 71))).trans (hg_9 j hj)) (by omega) ez1_ (hv1_.trans (bV_6 _ _ _).symm) he1_ hP hD hS hl
set_option maxHeartbeats 800000 in
set_option maxRecDepth 100000 in
theorem c_x5_tellsE (l : Launch) (G : GG) (ad : Nat → Nat) (S : FS) (sz : Nat) (qz i z : Nat) (x : Int32) (hq : qz < 7) (hpk : pk i = 7) (hzz : fF S 61 2 = nI z) (hzN : z + 12 ≤ 40) (hX : XI S) : Met l yX5_tells (Cond.code yX5_tells cX5_tells 4 (some .int) :: TBL) ({ frames := 18, cells := 12, slots := 768, locals := 560 } : Room) (PcE G (wX G ad S) sz [.ref (ad (2 + qz)), .ref (ad i), .int (x), .ref (ad 61)]) (va_Qi (fun (r : Int32) (u : FS × (Nat → Nat)) => XI u.1 ∧ Fr (fun j k => j = 61 ∨ (71 ≤ j ∧ (fK S j = 2 ∨ 71 + fC S ≤ j))) S u.1 ∧ (∀ j, j < 71 + fC S → u.2 j = ad j) ∧ (∃ z', z' ≤ z + 12 ∧ fF u.1 61 2 = nI z') ∧ r = bV (nI qz) ((fF S i 3)) ((fF S i 0)) x * 2 ∧ EB z ((12 :: bL qz)) S u.1) (fun u t => BW G (va_A (wX G ad S) sz) (wX G u.2 u.1) t) (va_A (wX G ad S) sz)) 12 768 (va_A (wX G ad S) sz) := by
  refine Met.ofW (cc := cX5_tells) (maxL := 4) (ret := (some .int)) (by decide) rfl ?_
  intro p e s m args below meth c₀ s₁ B hml hv
  obtain ⟨rfl, hsz, hP, hK, hD0, hE⟩ := hv
  have hx := B.exec
  have hb := B.bytes
  have hr := B.returns
  have hT : ∀ w ∈ TBL, w.before ([.ref (ad (2 + qz)), .ref (ad i), .int (x), .ref (ad 61)] : List Value).toArray s = true := fun w h => atoms_spec (ws := Cond.code yX5_tells cX5_tells 4 (some .int) :: TBL) B.pre w (List.mem_cons_of_mem _ h)
  have hown : s.vm.findClass "LittleMore$Kind" = some m.cls := findClass_of_methodNamed B.named
  have hlocks := B.notSynchronized
  subst hsz
  have hD := hD0.self (sz := s.heap.size)
  generalize hAe : va_A (wX G ad S) s.heap.size = A at hD hE ⊢
  have hA : ∀ q : Nat, s.heap.size ≤ q → A q := fun q h => by rw [← hAe]; exact Or.inr h
  have hS : va_S A s.heap s.heap [] := va_S.rf
  have hP : va_P G.1 vwCl (wX G ad S) s.heap := hP
  have hl := lv_entry ([.ref (ad (2 + qz)), .ref (ad i), .int (x), .ref (ad 61)]) (n := 4) (Nat.le_of_ble_eq_true rfl)
  rw [lg_entry_eq]
  generalize (lg_sl ([.ref (ad (2 + qz)), .ref (ad i), .int (x), .ref (ad 61)]) ++ List.replicate (4 - (lg_sl ([.ref (ad (2 + qz)), .ref (ad i), .int (x), .ref (ad 61)])).length) Slot.unset).toArray = ls at hl ⊢
  have hl : lv_has ls 4 [(0, .ref (ad (2 + qz))), (1, .ref (ad i)), (2, .int (x)), (3, .ref (ad 61))] := hl
  refine W_abs (fun Q hQ => ?_)
  generalize ([.ref (ad (2 + qz)), .ref (ad i), .int (x), .ref (ad 61)] : List Value).toArray = args at hT hQ ⊢
  have hb_i := pk7 hpk
  obtain ⟨r_k, hr_k⟩ := kcl_at hq
  refine lv_aload_n hx hb (fk_get fk_cX5_tells_0 0 rfl) rfl (lv_at hl 3 rfl) ?_
  refine lv_bipush (v := 12) hx hb (fk_get fk_cX5_tells_0 1 rfl) (by decide) ?_
  have hFc := va_self hD hS hA
  refine va_csq (W.runS (As := [.int (12)]) (rest := [.ref (ad 61)]) ⟨hx, hb, hml, hown, hT⟩ (c_jvalueOf l G ad S s.heap.size (12) (by first | assumption | omega) (hX)) (tS 1 hT m4_222 m4_130 m1_26 m4_131 rfl rfl (by decide +kernel) ⟨Nat.le_of_ble_eq_true rfl, Nat.le_of_ble_eq_true rfl⟩) ⟨PcE_blind, PcE_of hP hK hD hE hS (fun q h => hFc q h) _⟩ rfl rfl hl.1 rfl (lv_room (Nat.le_of_ble_eq_true rfl)) (fk_get fk_cX5_tells_0 2 rfl) ⟨Nat.zero_le _, Nat.zero_le _⟩) (fun r_1 hw_2 => ?_)
  try dsimp only at hw_2
  obtain ⟨jb_3, hb_3, eb_3, rfl⟩ := hw_2
  rw [show va_rf (some (G.2.2.2 jb_3)) = .ref (G.2.2.2 jb_3) from rfl]
  have hFc := va_self hD hS hA
  refine va_calli (va_runV (As := [.ref (G.2.2.2 jb_3)]) (rest := []) ⟨hx, hb, hml, hown, hT⟩ (c_jadd l G ad S s.heap.size (z) (jb_3) (hzz) (by first | assumption | omega) (hb_3) (hX)) (tV 1 hT m4_223 m4_150 m4_151 m1_15 m4_152 rfl rfl (by decide +kernel) ⟨Nat.le_of_ble_eq_true rfl, Nat.le_of_ble_eq_true rfl⟩) ⟨PcE_blind, va_recv hK hP (ci := 1) (q0 := 61) rfl (ix_at (lt71 (by omega)) (cX_lst G ad S)), PcE_of hP hK hD hE hS (fun q h => hFc q h) _⟩ rfl rfl hl.1 rfl (lv_room (Nat.le_of_ble_eq_true rfl)) (fk_get fk_cX5_tells_0 3 rfl) ⟨Nat.le_of_ble_eq_true rfl, Nat.le_of_ble_eq_true rfl⟩) hS (fun q _ h => hFc q h) hFc (fun r_3 u_ t_ H locs ht_ hvm_ hw_4 hB_ hz_ hk_ hS => ?_)
  obtain ⟨S_5, ad_6⟩ := u_
  dsimp only at hB_ hw_4
  obtain ⟨hP, -, hD1_⟩ := hB_
  rw [ht_] at hP
  have hD : va_D A (wX G ad_6 S_5) := hD1_.weaken (fun k q _ h => hFc q.1 h)
  obtain ⟨hX_7, hF_8_, hg_9_, hw_4⟩ := hw_4
  have hg_9 : ∀ j, j < 71 + fC S → ad_6 j = ad j := fun j hj => (hg_9_ j (Nat.lt_of_lt_of_le hj (Nat.add_le_add_left ((Fr.rf : Fr (fun j k => j = 61 ∨ (71 ≤ j ∧ (fK S j = 2 ∨ 71 + fC S ≤ j))) S S)).1 71))).trans ((fun _ _ => rfl) j hj)
  have hF_8 : Fr (fun j k => j = 61 ∨ (71 ≤ j ∧ (fK S j = 2 ∨ 71 + fC S ≤ j))) S S_5 := Fr.tr (Fr.rf : Fr (fun j k => j = 61 ∨ (71 ≤ j ∧ (fK S j = 2 ∨ 71 + fC S ≤ j))) S S) hF_8_ (fun j k hj h => by have hc_ := ((Fr.rf : Fr (fun j k => j = 61 ∨ (71 ≤ j ∧ (fK S j = 2 ∨ 71 + fC S ≤ j))) S S)).1; have hk_ := Fr.K ((Fr.rf : Fr (fun j k => j = 61 ∨ (71 ≤ j ∧ (fK S j = 2 ∨ 71 + fC S ≤ j))) S S)) hj; omega)
  have hl : lv_has ls 4 [(0, .ref (ad_6 (2 + qz))), (1, .ref (ad_6 i)), (2, .int (x)), (3, .ref (ad_6 61))] := by rw [hg_9_ (2 + qz) ((lt71 (by omega))), hg_9_ i ((lt71 (by omega))), hg_9_ 61 ((lt71 (by omega)))]; exact hl
  obtain ⟨ez_10, hw_4_⟩ := hw_4
  have eb_11 : EB z ([] ++ [12]) S S_5 := eb_app (eb_0 hzz) hzz (by omega) (by omega) (by simp only [List.length_append, List.length_cons, List.length_nil]; have := aL_len qz; have := bL_len qz; omega) (eb_1 ez_10 hw_4_ eb_3)
  refine lv_pop hx hb (fk_get fk_cX5_tells_0 4 rfl) rfl ?_
  refine lv_aload_n hx hb (fk_get fk_cX5_tells_0 5 rfl) rfl (lv_at hl 0 rfl) ?_
  refine lv_aload_n hx hb (fk_get fk_cX5_tells_0 6 rfl) rfl (lv_at hl 1 rfl) ?_
  refine lv_iload_n hx hb (fk_get fk_cX5_tells_0 7 rfl) rfl (lv_at hl 2 rfl) ?_
  refine lv_aload_n hx hb (fk_get fk_cX5_tells_0 8 rfl) rfl (lv_at hl 3 rfl) ?_
  have kk_k_12 : ∀ (rk_12 : Int32) (Sk_12 : FS) (adk_12 : Nat → Nat) (Hk_12 : Heap) (locsk_12 : List Loc) (zk_12 : Nat) (ls : Array Slot), XI Sk_12 → Fr (fun j k => j = 61 ∨ (71 ≤ j ∧ (fK S j = 2 ∨ 71 + fC S ≤ j))) S Sk_12 → (∀ j, j < 71 + fC S → adk_12 j = ad j) → zk_12 ≤ (z + 1) + 5 → fF Sk_12 61 2 = nI zk_12 → rk_12 = (bV (nI qz) (fF S i 3) (fF S i 0) x) → EB (z + 1) (bL qz) S_5 Sk_12 → va_P G.1 vwCl (wX G adk_12 Sk_12) Hk_12 → va_D A (wX G adk_12 Sk_12) → va_S A s.heap Hk_12 locsk_12 → lv_has ls 4 [(0, .ref (adk_12 (2 + qz))), (1, .ref (adk_12 i)), (2, .int (x)), (3, .ref (adk_12 61))] → W p l e ({ frames := 18, cells := 12, slots := 768, locals := 560 } : Room) s m args below meth c₀ Hk_12 locsk_12 ((0 + 1) + 5) ((0 + 64) + 320) Q (F0 m 17 ls [.int (rk_12)]) := by
    intro rk_12 Sk_12 adk_12 Hk_12 locsk_12 zk_12 ls hXk_12 hFk_12 hgk_12 bzk_12 ezk_12 hvk_12 hek_12 hP hD hS hl
    subst hvk_12
    have eb_13 : EB z (([] ++ [12]) ++ bL qz) S Sk_12 := eb_app eb_11 ez_10 (by omega) (by omega) (by simp only [List.length_append, List.length_cons, List.length_nil]; have := aL_len qz; have := bL_len qz; omega) hek_12
    refine lv_iconst (v := 2) hx hb (fk_get fk_cX5_tells_0 10 rfl) (by decide) ?_
    refine lv_imul hx hb (fk_get fk_cX5_tells_0 11 rfl) ?_
    subst hQ
    have hpost : XI Sk_12 ∧ Fr (fun j k => j = 61 ∨ (71 ≤ j ∧ (fK S j = 2 ∨ 71 + fC S ≤ j))) S Sk_12 ∧ (∀ j, j < 71 + fC S → adk_12 j = ad j) ∧ (∃ z', z' ≤ z + 12 ∧ fF Sk_12 61 2 = nI z') ∧ (((bV (nI qz) (fF S i 3) (fF S i 0) x) * 2) : Int32) = bV (nI qz) ((fF S i 3)) ((fF S i 0)) x * 2 ∧ EB z ((12 :: bL qz)) S Sk_12 := by
      exact ⟨hXk_12, hFk_12, hgk_12, ⟨⟨_, by omega, ezk_12⟩, by rfl, eb_13⟩⟩
    refine W.widen (k := 12) (n := 768) (by omega) (by omega) ?_
    exact W.iret (v := ((bV (nI qz) (fF S i 3) (fF S i 0) x) * 2)) hx hb hr (fun t_ ht_ hW_ => ⟨⟨((bV (nI qz) (fF S i 3) (fF S i 0) x) * 2), (Sk_12, adk_12), rfl, hpost, by rw [ht_]; exact hP, va_K.moved hW_.alike hK, hD⟩, hS.F ht_⟩) hS.2.2 (fk_get fk_cX5_tells_0 12 rfl)
  have hFc := va_self hD hS hA
  rcases kq7 hq with rfl | rfl | rfl | rfl | rfl | rfl | rfl
  · refine va_calli (va_runU (As := [.ref (ad_6 i), .int (x), .ref (ad_6 61)]) (rest := []) ⟨hx, hb, hml, hown, hT⟩ (c_x5_buysE l G ad_6 S_5 H.size (0) (i) ((z + 1)) (x) ((by omega : 0 < 7)) (hpk) (ez_10) (by first | assumption | omega) (hX_7)) (tU 3 hT m5_35 m4_227 m4_226 m4_225 m1_2 m5_7 rfl rfl rfl (by decide +kernel) ⟨Nat.le_of_ble_eq_true rfl, Nat.le_of_ble_eq_true rfl⟩) ⟨PcE_blind, va_recv hK hP (ci := 7) (q0 := 2 + 0) rfl (ix_at (lt71 (by omega)) (cX_knd (by omega))), PcE_of hP hK hD hE hS (fun q h => hFc q h) _⟩ rfl rfl hl.1 rfl (lv_room (Nat.le_of_ble_eq_true rfl)) (fk_get fk_cX5_tells_0 9 rfl) ⟨(by show (0 + 1) + 5 ≤ 12; omega), (by show (0 + 64) + 320 ≤ 768; omega)⟩) hS (fun q _ h => hFc q h) hFc (fun r_ u_ t_ H locs ht_ hvm_ hw_ hB_ hz_ hk_ hS => ?_)
    obtain ⟨S1_, ad1_⟩ := u_
    dsimp only at hB_ hw_
    obtain ⟨hP, -, hD1_⟩ := hB_
    rw [ht_] at hP
    have hD : va_D A (wX G ad1_ S1_) := hD1_.weaken (fun k q _ h => hFc q.1 h)
    obtain ⟨hX1_, hF1_, hg1_, ⟨z1_, bz1_, ez1_⟩, hv1_, he1_⟩ := hw_
    try rw [show fF S_5 i 3 = fF S i 3 from Fr.F hF_8 (lt71 (by omega)) (fun q => by omega)] at hv1_
    try rw [show fF S_5 i 0 = fF S i 0 from Fr.F hF_8 (lt71 (by omega)) (fun q => by omega)] at hv1_
    have hl : lv_has ls 4 [(0, .ref (ad1_ (2 + 0))), (1, .ref (ad1_ i)), (2, .int (x)), (3, .ref (ad1_ 61))] := by rw [hg1_ (2 + 0) ((lt71 (by omega))), hg1_ i ((lt71 (by omega))), hg1_ 61 ((lt71 (by omega)))]; exact hl
    exact kk_k_12 r_ S1_ ad1_ H locs z1_ ls hX1_ (Fr.tr hF_8 hF1_ (fun j k hj h => by have hc_ := (hF_8).1; have hk_ := Fr.K hF_8 hj; omega)) (fun j hj => (hg1_ j (Nat.lt_of_lt_of_le hj (Nat.add_le_add_left (hF_8).1 71))).trans (hg_9 j hj)) (by omega) ez1_ (hv1_.trans (bV_0 _ _ _).symm) he1_ hP hD hS hl
  · refine va_calli (va_runU (As := [.ref (ad_6 i), .int (x), .ref (ad_6 61)]) (rest := []) ⟨hx, hb, hml, hown, hT⟩ (c_x8_buysE l G ad_6 S_5 H.size (1) (i) ((z + 1)) (x) ((by omega : 1 < 7)) (hpk) (ez_10) (by first | assumption | omega) (hX_7)) (tO 3 hT m5_35 m4_227 m4_225 m5_0 m4_233 m1_3 m4_234 m5_7 rfl rfl (by decide +kernel) ⟨Nat.le_of_ble_eq_true rfl, Nat.le_of_ble_eq_true rfl⟩) ⟨PcE_blind, va_recv hK hP (ci := 10) (q0 := 2 + 1) rfl (ix_at (lt71 (by omega)) (cX_knd (by omega))), PcE_of hP hK hD hE hS (fun q h => hFc q h) _⟩ rfl rfl hl.1 rfl (lv_room (Nat.le_of_ble_eq_true rfl)) (fk_get fk_cX5_tells_0 9 rfl) ⟨(by show (0 + 1) + 5 ≤ 12; omega), (by show (0 + 64) + 320 ≤ 768; omega)⟩) hS (fun q _ h => hFc q h) hFc (fun r_ u_ t_ H locs ht_ hvm_ hw_ hB_ hz_ hk_ hS => ?_)
    obtain ⟨S1_, ad1_⟩ := u_
    dsimp only at hB_ hw_
    obtain ⟨hP, -, hD1_⟩ := hB_
    rw [ht_] at hP
    have hD : va_D A (wX G ad1_ S1_) := hD1_.weaken (fun k q _ h => hFc q.1 h)
    obtain ⟨hX1_, hF1_, hg1_, ⟨z1_, bz1_, ez1_⟩, hv1_, he1_⟩ := hw_
    try rw [show fF S_5 i 3 = fF S i 3 from Fr.F hF_8 (lt71 (by omega)) (fun q => by omega)] at hv1_
    try rw [show fF S_5 i 0 = fF S i 0 from Fr.F hF_8 (lt71 (by omega)) (fun q => by omega)] at hv1_
    have hl : lv_has ls 4 [(0, .ref (ad1_ (2 + 1))), (1, .ref (ad1_ i)), (2, .int (x)), (3, .ref (ad1_ 61))] := by rw [hg1_ (2 + 1) ((lt71 (by omega))), hg1_ i ((lt71 (by omega))), hg1_ 61 ((lt71 (by omega)))]; exact hl
    exact kk_k_12 r_ S1_ ad1_ H locs z1_ ls hX1_ (Fr.tr hF_8 hF1_ (fun j k hj h => by have hc_ := (hF_8).1; have hk_ := Fr.K hF_8 hj; omega)) (fun j hj => (hg1_ j (Nat.lt_of_lt_of_le hj (Nat.add_le_add_left (hF_8).1 71))).trans (hg_9 j hj)) (by omega) ez1_ (hv1_.trans (bV_1 _ _ _).symm) he1_ hP hD hS hl
  · refine va_calli (va_runU (As := [.ref (ad_6 i), .int (x), .ref (ad_6 61)]) (rest := []) ⟨hx, hb, hml, hown, hT⟩ (c_x5_buysE l G ad_6 S_5 H.size (2) (i) ((z + 1)) (x) ((by omega : 2 < 7)) (hpk) (ez_10) (by first | assumption | omega) (hX_7)) (tU 3 hT m5_35 m4_227 m4_238 m4_225 m1_2 m5_7 rfl rfl rfl (by decide +kernel) ⟨Nat.le_of_ble_eq_true rfl, Nat.le_of_ble_eq_true rfl⟩) ⟨PcE_blind, va_recv hK hP (ci := 6) (q0 := 2 + 2) rfl (ix_at (lt71 (by omega)) (cX_knd (by omega))), PcE_of hP hK hD hE hS (fun q h => hFc q h) _⟩ rfl rfl hl.1 rfl (lv_room (Nat.le_of_ble_eq_true rfl)) (fk_get fk_cX5_tells_0 9 rfl) ⟨(by show (0 + 1) + 5 ≤ 12; omega), (by show (0 + 64) + 320 ≤ 768; omega)⟩) hS (fun q _ h => hFc q h) hFc (fun r_ u_ t_ H locs ht_ hvm_ hw_ hB_ hz_ hk_ hS => ?_)
    obtain ⟨S1_, ad1_⟩ := u_
    dsimp only at hB_ hw_
    obtain ⟨hP, -, hD1_⟩ := hB_
    rw [ht_] at hP
    have hD : va_D A (wX G ad1_ S1_) := hD1_.weaken (fun k q _ h => hFc q.1 h)
    obtain ⟨hX1_, hF1_, hg1_, ⟨z1_, bz1_, ez1_⟩, hv1_, he1_⟩ := hw_
    try rw [show fF S_5 i 3 = fF S i 3 from Fr.F hF_8 (lt71 (by omega)) (fun q => by omega)] at hv1_
    try rw [show fF S_5 i 0 = fF S i 0 from Fr.F hF_8 (lt71 (by omega)) (fun q => by omega)] at hv1_
    have hl : lv_has ls 4 [(0, .ref (ad1_ (2 + 2))), (1, .ref (ad1_ i)), (2, .int (x)), (3, .ref (ad1_ 61))] := by rw [hg1_ (2 + 2) ((lt71 (by omega))), hg1_ i ((lt71 (by omega))), hg1_ 61 ((lt71 (by omega)))]; exact hl
    exact kk_k_12 r_ S1_ ad1_ H locs z1_ ls hX1_ (Fr.tr hF_8 hF1_ (fun j k hj h => by have hc_ := (hF_8).1; have hk_ := Fr.K hF_8 hj; omega)) (fun j hj => (hg1_ j (Nat.lt_of_lt_of_le hj (Nat.add_le_add_left (hF_8).1 71))).trans (hg_9 j hj)) (by omega) ez1_ (hv1_.trans (bV_2 _ _ _).symm) he1_ hP hD hS hl
  · refine va_calli (va_runU (As := [.ref (ad_6 i), .int (x), .ref (ad_6 61)]) (rest := []) ⟨hx, hb, hml, hown, hT⟩ (c_x5_buysE l G ad_6 S_5 H.size (3) (i) ((z + 1)) (x) ((by omega : 3 < 7)) (hpk) (ez_10) (by first | assumption | omega) (hX_7)) (tU 3 hT m5_35 m4_227 m4_228 m4_225 m1_2 m5_7 rfl rfl rfl (by decide +kernel) ⟨Nat.le_of_ble_eq_true rfl, Nat.le_of_ble_eq_true rfl⟩) ⟨PcE_blind, va_recv hK hP (ci := 2) (q0 := 2 + 3) rfl (ix_at (lt71 (by omega)) (cX_knd (by omega))), PcE_of hP hK hD hE hS (fun q h => hFc q h) _⟩ rfl rfl hl.1 rfl (lv_room (Nat.le_of_ble_eq_true rfl)) (fk_get fk_cX5_tells_0 9 rfl) ⟨(by show (0 + 1) + 5 ≤ 12; omega), (by show (0 + 64) + 320 ≤ 768; omega)⟩) hS (fun q _ h => hFc q h) hFc (fun r_ u_ t_ H locs ht_ hvm_ hw_ hB_ hz_ hk_ hS => ?_)
    obtain ⟨S1_, ad1_⟩ := u_
    dsimp only at hB_ hw_
    obtain ⟨hP, -, hD1_⟩ := hB_
    rw [ht_] at hP
    have hD : va_D A (wX G ad1_ S1_) := hD1_.weaken (fun k q _ h => hFc q.1 h)
    obtain ⟨hX1_, hF1_, hg1_, ⟨z1_, bz1_, ez1_⟩, hv1_, he1_⟩ := hw_
    try rw [show fF S_5 i 3 = fF S i 3 from Fr.F hF_8 (lt71 (by omega)) (fun q => by omega)] at hv1_
    try rw [show fF S_5 i 0 = fF S i 0 from Fr.F hF_8 (lt71 (by omega)) (fun q => by omega)] at hv1_
    have hl : lv_has ls 4 [(0, .ref (ad1_ (2 + 3))), (1, .ref (ad1_ i)), (2, .int (x)), (3, .ref (ad1_ 61))] := by rw [hg1_ (2 + 3) ((lt71 (by omega))), hg1_ i ((lt71 (by omega))), hg1_ 61 ((lt71 (by omega)))]; exact hl
    exact kk_k_12 r_ S1_ ad1_ H locs z1_ ls hX1_ (Fr.tr hF_8 hF1_ (fun j k hj h => by have hc_ := (hF_8).1; have hk_ := Fr.K hF_8 hj; omega)) (fun j hj => (hg1_ j (Nat.lt_of_lt_of_le hj (Nat.add_le_add_left (hF_8).1 71))).trans (hg_9 j hj)) (by omega) ez1_ (hv1_.trans (bV_3 _ _ _).symm) he1_ hP hD hS hl
  · refine va_calli (va_runU (As := [.ref (ad_6 i), .int (x), .ref (ad_6 61)]) (rest := []) ⟨hx, hb, hml, hown, hT⟩ (c_x2_buysE l G ad_6 S_5 H.size (4) (i) ((z + 1)) (x) ((by omega : 4 < 7)) (hpk) (ez_10) (by first | assumption | omega) (hX_7)) (tO 3 hT m5_35 m4_227 m4_225 m4_229 m4_230 m1_6 m4_231 m5_7 rfl rfl (by decide +kernel) ⟨Nat.le_of_ble_eq_true rfl, Nat.le_of_ble_eq_true rfl⟩) ⟨PcE_blind, va_recv hK hP (ci := 4) (q0 := 2 + 4) rfl (ix_at (lt71 (by omega)) (cX_knd (by omega))), PcE_of hP hK hD hE hS (fun q h => hFc q h) _⟩ rfl rfl hl.1 rfl (lv_room (Nat.le_of_ble_eq_true rfl)) (fk_get fk_cX5_tells_0 9 rfl) ⟨(by show (0 + 1) + 5 ≤ 12; omega), (by show (0 + 64) + 320 ≤ 768; omega)⟩) hS (fun q _ h => hFc q h) hFc (fun r_ u_ t_ H locs ht_ hvm_ hw_ hB_ hz_ hk_ hS => ?_)
    obtain ⟨S1_, ad1_⟩ := u_
    dsimp only at hB_ hw_
    obtain ⟨hP, -, hD1_⟩ := hB_
    rw [ht_] at hP
    have hD : va_D A (wX G ad1_ S1_) := hD1_.weaken (fun k q _ h => hFc q.1 h)
    obtain ⟨hX1_, hF1_, hg1_, ⟨z1_, bz1_, ez1_⟩, hv1_, he1_⟩ := hw_
    try rw [show fF S_5 i 3 = fF S i 3 from Fr.F hF_8 (lt71 (by omega)) (fun q => by omega)] at hv1_
    try rw [show fF S_5 i 0 = fF S i 0 from Fr.F hF_8 (lt71 (by omega)) (fun q => by omega)] at hv1_
    have hl : lv_has ls 4 [(0, .ref (ad1_ (2 + 4))), (1, .ref (ad1_ i)), (2, .int (x)), (3, .ref (ad1_ 61))] := by rw [hg1_ (2 + 4) ((lt71 (by omega))), hg1_ i ((lt71 (by omega))), hg1_ 61 ((lt71 (by omega)))]; exact hl
    exact kk_k_12 r_ S1_ ad1_ H locs z1_ ls hX1_ (Fr.tr hF_8 hF1_ (fun j k hj h => by have hc_ := (hF_8).1; have hk_ := Fr.K hF_8 hj; omega)) (fun j hj => (hg1_ j (Nat.lt_of_lt_of_le hj (Nat.add_le_add_left (hF_8).1 71))).trans (hg_9 j hj)) (by omega) ez1_ (hv1_.trans (bV_4 _ _ _).symm) he1_ hP hD hS hl
  · refine va_calli (va_runU (As := [.ref (ad_6 i), .int (x), .ref (ad_6 61)]) (rest := []) ⟨hx, hb, hml, hown, hT⟩ (c_x5_buysE l G ad_6 S_5 H.size (5) (i) ((z + 1)) (x) ((by omega : 5 < 7)) (hpk) (ez_10) (by first | assumption | omega) (hX_7)) (tU 3 hT m5_35 m4_227 m4_239 m4_225 m1_2 m5_7 rfl rfl rfl (by decide +kernel) ⟨Nat.le_of_ble_eq_true rfl, Nat.le_of_ble_eq_true rfl⟩) ⟨PcE_blind, va_recv hK hP (ci := 8) (q0 := 2 + 5) rfl (ix_at (lt71 (by omega)) (cX_knd (by omega))), PcE_of hP hK hD hE hS (fun q h => hFc q h) _⟩ rfl rfl hl.1 rfl (lv_room (Nat.le_of_ble_eq_true rfl)) (fk_get fk_cX5_tells_0 9 rfl) ⟨(by show (0 + 1) + 5 ≤ 12; omega), (by show (0 + 64) + 320 ≤ 768; omega)⟩) hS (fun q _ h => hFc q h) hFc (fun r_ u_ t_ H locs ht_ hvm_ hw_ hB_ hz_ hk_ hS => ?_)
    obtain ⟨S1_, ad1_⟩ := u_
    dsimp only at hB_ hw_
    obtain ⟨hP, -, hD1_⟩ := hB_
    rw [ht_] at hP
    have hD : va_D A (wX G ad1_ S1_) := hD1_.weaken (fun k q _ h => hFc q.1 h)
    obtain ⟨hX1_, hF1_, hg1_, ⟨z1_, bz1_, ez1_⟩, hv1_, he1_⟩ := hw_
    try rw [show fF S_5 i 3 = fF S i 3 from Fr.F hF_8 (lt71 (by omega)) (fun q => by omega)] at hv1_
    try rw [show fF S_5 i 0 = fF S i 0 from Fr.F hF_8 (lt71 (by omega)) (fun q => by omega)] at hv1_
    have hl : lv_has ls 4 [(0, .ref (ad1_ (2 + 5))), (1, .ref (ad1_ i)), (2, .int (x)), (3, .ref (ad1_ 61))] := by rw [hg1_ (2 + 5) ((lt71 (by omega))), hg1_ i ((lt71 (by omega))), hg1_ 61 ((lt71 (by omega)))]; exact hl
    exact kk_k_12 r_ S1_ ad1_ H locs z1_ ls hX1_ (Fr.tr hF_8 hF1_ (fun j k hj h => by have hc_ := (hF_8).1; have hk_ := Fr.K hF_8 hj; omega)) (fun j hj => (hg1_ j (Nat.lt_of_lt_of_le hj (Nat.add_le_add_left (hF_8).1 71))).trans (hg_9 j hj)) (by omega) ez1_ (hv1_.trans (bV_5 _ _ _).symm) he1_ hP hD hS hl
  · refine va_calli (va_runU (As := [.ref (ad_6 i), .int (x), .ref (ad_6 61)]) (rest := []) ⟨hx, hb, hml, hown, hT⟩ (c_x10_buysE l G ad_6 S_5 H.size (6) (i) ((z + 1)) (x) ((by omega : 6 < 7)) (hpk) (ez_10) (by first | assumption | omega) (hX_7)) (tO 3 hT m5_35 m4_227 m4_225 m5_1 m5_2 m1_8 m5_3 m5_7 rfl rfl (by decide +kernel) ⟨Nat.le_of_ble_eq_true rfl, Nat.le_of_ble_eq_true rfl⟩) ⟨PcE_blind, va_recv hK hP (ci := 12) (q0 := 2 + 6) rfl (ix_at (lt71 (by omega)) (cX_knd (by omega))), PcE_of hP hK hD hE hS (fun q h => hFc q h) _⟩ rfl rfl hl.1 rfl (lv_room (Nat.le_of_ble_eq_true rfl)) (fk_get fk_cX5_tells_0 9 rfl) ⟨(by show (0 + 1) + 5 ≤ 12; omega), (by show (0 + 64) + 320 ≤ 768; omega)⟩) hS (fun q _ h => hFc q h) hFc (fun r_ u_ t_ H locs ht_ hvm_ hw_ hB_ hz_ hk_ hS => ?_)
    obtain ⟨S1_, ad1_⟩ := u_
    dsimp only at hB_ hw_
    obtain ⟨hP, -, hD1_⟩ := hB_
    rw [ht_] at hP
    have hD : va_D A (wX G ad1_ S1_) := hD1_.weaken (fun k q _ h => hFc q.1 h)
    obtain ⟨hX1_, hF1_, hg1_, ⟨z1_, bz1_, ez1_⟩, hv1_, he1_⟩ := hw_
    try rw [show fF S_5 i 3 = fF S i 3 from Fr.F hF_8 (lt71 (by omega)) (fun q => by omega)] at hv1_
    try rw [show fF S_5 i 0 = fF S i 0 from Fr.F hF_8 (lt71 (by omega)) (fun q => by omega)] at hv1_
    have hl : lv_has ls 4 [(0, .ref (ad1_ (2 + 6))), (1, .ref (ad1_ i)), (2, .int (x)), (3, .ref (ad1_ 61))] := by rw [hg1_ (2 + 6) ((lt71 (by omega))), hg1_ i ((lt71 (by omega))), hg1_ 61 ((lt71 (by omega)))]; exact hl
    exact kk_k_12 r_ S1_ ad1_ H locs z1_ ls hX1_ (Fr.tr hF_8 hF1_ (fun j k hj h => by have hc_ := (hF_8).1; have hk_ := Fr.K hF_8 hj; omega)) (fun j hj => (hg1_ j (Nat.lt_of_lt_of_le hj (Nat.add_le_add_left (hF_8).1 71))).trans (hg_9 j hj)) (by omega) ez1_ (hv1_.trans (bV_6 _ _ _).symm) he1_ hP hD hS hl
set_option maxHeartbeats 800000 in
set_option maxRecDepth 100000 in
theorem c_x0_tellsE (l : Launch) (G : GG) (ad : Nat → Nat) (S : FS) (sz : Nat) (qz i z : Nat) (x : Int32) (hq : qz < 7) (hq36 : qz = 3 ∨ qz = 6) (hpk : pk i = 7) (hzz : fF S 61 2 = nI z) (hzN : z + 12 ≤ 40) (hX : XI S) : Met l yX0_tells (Cond.code yX0_tells cX0_tells 4 (some .int) :: TBL) ({ frames := 19, cells := 12, slots := 768, locals := 587 } : Room) (PcE G (wX G ad S) sz [.ref (ad (2 + qz)), .ref (ad i), .int (x), .ref (ad 61)]) (va_Qi (fun (r : Int32) (u : FS × (Nat → Nat)) => XI u.1 ∧ Fr (fun j k => j = 61 ∨ (71 ≤ j ∧ (fK S j = 2 ∨ 71 + fC S ≤ j))) S u.1 ∧ (∀ j, j < 71 + fC S → u.2 j = ad j) ∧ (∃ z', z' ≤ z + 12 ∧ fF u.1 61 2 = nI z') ∧ r = bV (nI qz) ((fF S i 3)) ((fF S i 0)) x * 2 + bV (nI qz) ((fF S i 3)) ((fF S i 0)) 1 ∧ EB z ((40 :: (12 :: bL qz ++ bL qz))) S u.1) (fun u t => BW G (va_A (wX G ad S) sz) (wX G u.2 u.1) t) (va_A (wX G ad S) sz)) 12 768 (va_A (wX G ad S) sz) := by
  refine Met.ofW (cc := cX0_tells) (maxL := 4) (ret := (some .int)) (by decide) rfl ?_
  intro p e s m args below meth c₀ s₁ B hml hv
  obtain ⟨rfl, hsz, hP, hK, hD0, hE⟩ := hv
  have hx := B.exec
  have hb := B.bytes
  have hr := B.returns
  have hT : ∀ w ∈ TBL, w.before ([.ref (ad (2 + qz)), .ref (ad i), .int (x), .ref (ad 61)] : List Value).toArray s = true := fun w h => atoms_spec (ws := Cond.code yX0_tells cX0_tells 4 (some .int) :: TBL) B.pre w (List.mem_cons_of_mem _ h)
  have hown : s.vm.findClass "LittleMore$Child" = some m.cls := findClass_of_methodNamed B.named
  have hlocks := B.notSynchronized
  subst hsz
  have hD := hD0.self (sz := s.heap.size)
  generalize hAe : va_A (wX G ad S) s.heap.size = A at hD hE ⊢
  have hA : ∀ q : Nat, s.heap.size ≤ q → A q := fun q h => by rw [← hAe]; exact Or.inr h
  have hS : va_S A s.heap s.heap [] := va_S.rf
  have hP : va_P G.1 vwCl (wX G ad S) s.heap := hP
  have hl := lv_entry ([.ref (ad (2 + qz)), .ref (ad i), .int (x), .ref (ad 61)]) (n := 4) (Nat.le_of_ble_eq_true rfl)
  rw [lg_entry_eq]
  generalize (lg_sl ([.ref (ad (2 + qz)), .ref (ad i), .int (x), .ref (ad 61)]) ++ List.replicate (4 - (lg_sl ([.ref (ad (2 + qz)), .ref (ad i), .int (x), .ref (ad 61)])).length) Slot.unset).toArray = ls at hl ⊢
  have hl : lv_has ls 4 [(0, .ref (ad (2 + qz))), (1, .ref (ad i)), (2, .int (x)), (3, .ref (ad 61))] := hl
  refine W_abs (fun Q hQ => ?_)
  generalize ([.ref (ad (2 + qz)), .ref (ad i), .int (x), .ref (ad 61)] : List Value).toArray = args at hT hQ ⊢
  have hb_i := pk7 hpk
  obtain ⟨r_k, hr_k⟩ := kcl_at hq
  refine lv_aload_n hx hb (fk_get fk_cX0_tells_0 0 rfl) rfl (lv_at hl 3 rfl) ?_
  refine lv_bipush (v := 40) hx hb (fk_get fk_cX0_tells_0 1 rfl) (by decide) ?_
  have hFc := va_self hD hS hA
  refine va_csq (W.runS (As := [.int (40)]) (rest := [.ref (ad 61)]) ⟨hx, hb, hml, hown, hT⟩ (c_jvalueOf l G ad S s.heap.size (40) (by first | assumption | omega) (hX)) (tS 1 hT m5_16 m4_130 m1_26 m4_131 rfl rfl (by decide +kernel) ⟨Nat.le_of_ble_eq_true rfl, Nat.le_of_ble_eq_true rfl⟩) ⟨PcE_blind, PcE_of hP hK hD hE hS (fun q h => hFc q h) _⟩ rfl rfl hl.1 rfl (lv_room (Nat.le_of_ble_eq_true rfl)) (fk_get fk_cX0_tells_0 2 rfl) ⟨Nat.zero_le _, Nat.zero_le _⟩) (fun r_1 hw_2 => ?_)
  try dsimp only at hw_2
  obtain ⟨jb_3, hb_3, eb_3, rfl⟩ := hw_2
  rw [show va_rf (some (G.2.2.2 jb_3)) = .ref (G.2.2.2 jb_3) from rfl]
  have hFc := va_self hD hS hA
  refine va_calli (va_runV (As := [.ref (G.2.2.2 jb_3)]) (rest := []) ⟨hx, hb, hml, hown, hT⟩ (c_jadd l G ad S s.heap.size (z) (jb_3) (hzz) (by first | assumption | omega) (hb_3) (hX)) (tV 1 hT m5_17 m4_150 m4_151 m1_15 m4_152 rfl rfl (by decide +kernel) ⟨Nat.le_of_ble_eq_true rfl, Nat.le_of_ble_eq_true rfl⟩) ⟨PcE_blind, va_recv hK hP (ci := 1) (q0 := 61) rfl (ix_at (lt71 (by omega)) (cX_lst G ad S)), PcE_of hP hK hD hE hS (fun q h => hFc q h) _⟩ rfl rfl hl.1 rfl (lv_room (Nat.le_of_ble_eq_true rfl)) (fk_get fk_cX0_tells_0 3 rfl) ⟨Nat.le_of_ble_eq_true rfl, Nat.le_of_ble_eq_true rfl⟩) hS (fun q _ h => hFc q h) hFc (fun r_3 u_ t_ H locs ht_ hvm_ hw_4 hB_ hz_ hk_ hS => ?_)
  obtain ⟨S_5, ad_6⟩ := u_
  dsimp only at hB_ hw_4
  obtain ⟨hP, -, hD1_⟩ := hB_
  rw [ht_] at hP
  have hD : va_D A (wX G ad_6 S_5) := hD1_.weaken (fun k q _ h => hFc q.1 h)
  obtain ⟨hX_7, hF_8_, hg_9_, hw_4⟩ := hw_4
  have hg_9 : ∀ j, j < 71 + fC S → ad_6 j = ad j := fun j hj => (hg_9_ j (Nat.lt_of_lt_of_le hj (Nat.add_le_add_left ((Fr.rf : Fr (fun j k => j = 61 ∨ (71 ≤ j ∧ (fK S j = 2 ∨ 71 + fC S ≤ j))) S S)).1 71))).trans ((fun _ _ => rfl) j hj)
  have hF_8 : Fr (fun j k => j = 61 ∨ (71 ≤ j ∧ (fK S j = 2 ∨ 71 + fC S ≤ j))) S S_5 := Fr.tr (Fr.rf : Fr (fun j k => j = 61 ∨ (71 ≤ j ∧ (fK S j = 2 ∨ 71 + fC S ≤ j))) S S) hF_8_ (fun j k hj h => by have hc_ := ((Fr.rf : Fr (fun j k => j = 61 ∨ (71 ≤ j ∧ (fK S j = 2 ∨ 71 + fC S ≤ j))) S S)).1; have hk_ := Fr.K ((Fr.rf : Fr (fun j k => j = 61 ∨ (71 ≤ j ∧ (fK S j = 2 ∨ 71 + fC S ≤ j))) S S)) hj; omega)
  have hl : lv_has ls 4 [(0, .ref (ad_6 (2 + qz))), (1, .ref (ad_6 i)), (2, .int (x)), (3, .ref (ad_6 61))] := by rw [hg_9_ (2 + qz) ((lt71 (by omega))), hg_9_ i ((lt71 (by omega))), hg_9_ 61 ((lt71 (by omega)))]; exact hl
  obtain ⟨ez_10, hw_4_⟩ := hw_4
  have eb_11 : EB z ([] ++ [40]) S S_5 := eb_app (eb_0 hzz) hzz (by omega) (by omega) (by simp only [List.length_append, List.length_cons, List.length_nil]; have := aL_len qz; have := bL_len qz; omega) (eb_1 ez_10 hw_4_ eb_3)
  refine lv_pop hx hb (fk_get fk_cX0_tells_0 4 rfl) rfl ?_
  refine lv_aload_n hx hb (fk_get fk_cX0_tells_0 5 rfl) rfl (lv_at hl 0 rfl) ?_
  refine lv_aload_n hx hb (fk_get fk_cX0_tells_0 6 rfl) rfl (lv_at hl 1 rfl) ?_
  refine lv_iload_n hx hb (fk_get fk_cX0_tells_0 7 rfl) rfl (lv_at hl 2 rfl) ?_
  refine lv_aload_n hx hb (fk_get fk_cX0_tells_0 8 rfl) rfl (lv_at hl 3 rfl) ?_
  have hFc := va_self hD hS hA
  refine va_calli (va_runSU (C := r_k.1) (As := [.ref (ad_6 i), .int (x), .ref (ad_6 61)]) (rest := []) (hK.1 (kcl qz) r_k hr_k).2 ⟨hx, hb, hml, hown, hT⟩ (c_x5_tells6E l G ad_6 S_5 H.size (qz) (i) ((z + 1)) (x) (hq) (hpk) (ez_10) (by first | assumption | omega) (hX_7)) (tSU 3 hT m5_18 m5_12 m1_74 m5_10 m1_2 m5_34 rfl rfl (by decide +kernel) ⟨Nat.le_of_ble_eq_true rfl, Nat.le_of_ble_eq_true rfl⟩) ⟨PcE_blind, va_recv hK hP hr_k (ix_at (lt71 (by omega)) (cX_knd hq)), PcE_of hP hK hD hE hS (fun q h => hFc q h) _⟩ rfl rfl hl.1 rfl (lv_room (Nat.le_of_ble_eq_true rfl)) (fk_get fk_cX0_tells_0 9 rfl) ⟨(by show (0 + 1) + 6 ≤ 12; omega), (by show (0 + 64) + 384 ≤ 768; omega)⟩) hS (fun q _ h => hFc q h) hFc (fun r_12 u_ t_ H locs ht_ hvm_ hw_13 hB_ hz_ hk_ hS => ?_)
  obtain ⟨S_14, ad_15⟩ := u_
  dsimp only at hB_ hw_13
  obtain ⟨hP, -, hD1_⟩ := hB_
  rw [ht_] at hP
  have hD : va_D A (wX G ad_15 S_14) := hD1_.weaken (fun k q _ h => hFc q.1 h)
  obtain ⟨hX_16, hF_17_, hg_18_, hw_13⟩ := hw_13
  have hg_18 : ∀ j, j < 71 + fC S → ad_15 j = ad j := fun j hj => (hg_18_ j (Nat.lt_of_lt_of_le hj (Nat.add_le_add_left (hF_8).1 71))).trans (hg_9 j hj)
  have hF_17 : Fr (fun j k => j = 61 ∨ (71 ≤ j ∧ (fK S j = 2 ∨ 71 + fC S ≤ j))) S S_14 := Fr.tr hF_8 hF_17_ (fun j k hj h => by have hc_ := (hF_8).1; have hk_ := Fr.K hF_8 hj; omega)
  have hl : lv_has ls 4 [(0, .ref (ad_15 (2 + qz))), (1, .ref (ad_15 i)), (2, .int (x)), (3, .ref (ad_15 61))] := by rw [hg_18_ (2 + qz) ((lt71 (by omega))), hg_18_ i ((lt71 (by omega))), hg_18_ 61 ((lt71 (by omega)))]; exact hl
  obtain ⟨⟨z_19, bz_19, ez_19⟩, hvz_19, hez_19⟩ := hw_13
  try rw [show fF S_5 i 3 = fF S i 3 from Fr.F hF_8 (lt71 (by omega)) (fun q => by omega)] at hvz_19
  try rw [show fF S_5 i 0 = fF S i 0 from Fr.F hF_8 (lt71 (by omega)) (fun q => by omega)] at hvz_19
  subst hvz_19
  have eb_20 : EB z (([] ++ [40]) ++ ((12 :: bL qz))) S S_14 := eb_app eb_11 ez_10 (by omega) (by omega) (by simp only [List.length_append, List.length_cons, List.length_nil]; have := aL_len qz; have := bL_len qz; omega) hez_19
  refine lv_aload_n hx hb (fk_get fk_cX0_tells_0 10 rfl) rfl (lv_at hl 0 rfl) ?_
  refine lv_aload_n hx hb (fk_get fk_cX0_tells_0 11 rfl) rfl (lv_at hl 1 rfl) ?_
  refine lv_iconst (v := 1) hx hb (fk_get fk_cX0_tells_0 12 rfl) (by decide) ?_
  refine lv_aload_n hx hb (fk_get fk_cX0_tells_0 13 rfl) rfl (lv_at hl 3 rfl) ?_
  have kk_k_21 : ∀ (rk_21 : Int32) (Sk_21 : FS) (adk_21 : Nat → Nat) (Hk_21 : Heap) (locsk_21 : List Loc) (zk_21 : Nat) (ls : Array Slot), XI Sk_21 → Fr (fun j k => j = 61 ∨ (71 ≤ j ∧ (fK S j = 2 ∨ 71 + fC S ≤ j))) S Sk_21 → (∀ j, j < 71 + fC S → adk_21 j = ad j) → zk_21 ≤ z_19 + 5 → fF Sk_21 61 2 = nI zk_21 → rk_21 = (bV (nI qz) (fF S i 3) (fF S i 0) 1) → EB z_19 (bL qz) S_14 Sk_21 → va_P G.1 vwCl (wX G adk_21 Sk_21) Hk_21 → va_D A (wX G adk_21 Sk_21) → va_S A s.heap Hk_21 locsk_21 → lv_has ls 4 [(0, .ref (adk_21 (2 + qz))), (1, .ref (adk_21 i)), (2, .int (x)), (3, .ref (adk_21 61))] → W p l e ({ frames := 19, cells := 12, slots := 768, locals := 587 } : Room) s m args below meth c₀ Hk_21 locsk_21 (((0 + 1) + 6) + 5) (((0 + 64) + 384) + 320) Q (F0 m 24 ls [.int (rk_21), .int ((bV (nI qz) (fF S i 3) (fF S i 0) x * 2))]) := by
    intro rk_21 Sk_21 adk_21 Hk_21 locsk_21 zk_21 ls hXk_21 hFk_21 hgk_21 bzk_21 ezk_21 hvk_21 hek_21 hP hD hS hl
    subst hvk_21
    have eb_22 : EB z ((([] ++ [40]) ++ ((12 :: bL qz))) ++ bL qz) S Sk_21 := eb_app eb_20 ez_19 (by omega) (by omega) (by simp only [List.length_append, List.length_cons, List.length_nil]; have := aL_len qz; have := bL_len qz; omega) hek_21
    refine lv_iadd hx hb (fk_get fk_cX0_tells_0 15 rfl) ?_
    subst hQ
    have hpost : XI Sk_21 ∧ Fr (fun j k => j = 61 ∨ (71 ≤ j ∧ (fK S j = 2 ∨ 71 + fC S ≤ j))) S Sk_21 ∧ (∀ j, j < 71 + fC S → adk_21 j = ad j) ∧ (∃ z', z' ≤ z + 12 ∧ fF Sk_21 61 2 = nI z') ∧ (((bV (nI qz) (fF S i 3) (fF S i 0) x * 2) + (bV (nI qz) (fF S i 3) (fF S i 0) 1)) : Int32) = bV (nI qz) ((fF S i 3)) ((fF S i 0)) x * 2 + bV (nI qz) ((fF S i 3)) ((fF S i 0)) 1 ∧ EB z ((40 :: (12 :: bL qz ++ bL qz))) S Sk_21 := by
      exact ⟨hXk_21, hFk_21, hgk_21, ⟨⟨_, by omega, ezk_21⟩, by rfl, eb_22⟩⟩
    refine W.widen (k := 12) (n := 768) (by omega) (by omega) ?_
    exact W.iret (v := ((bV (nI qz) (fF S i 3) (fF S i 0) x * 2) + (bV (nI qz) (fF S i 3) (fF S i 0) 1))) hx hb hr (fun t_ ht_ hW_ => ⟨⟨((bV (nI qz) (fF S i 3) (fF S i 0) x * 2) + (bV (nI qz) (fF S i 3) (fF S i 0) 1)), (Sk_21, adk_21), rfl, hpost, by rw [ht_]; exact hP, va_K.moved hW_.alike hK, hD⟩, hS.F ht_⟩) hS.2.2 (fk_get fk_cX0_tells_0 16 rfl)
  have hFc := va_self hD hS hA
  rcases kq7 hq with rfl | rfl | rfl | rfl | rfl | rfl | rfl
  · exact absurd hq36 (by omega)
  · exact absurd hq36 (by omega)
  · exact absurd hq36 (by omega)
  · refine va_calli (va_runU (As := [.ref (ad_15 i), .int (1), .ref (ad_15 61)]) (rest := [.int ((bV (nI 3) (fF S i 3) (fF S i 0) x * 2))]) ⟨hx, hb, hml, hown, hT⟩ (c_x5_buysE l G ad_15 S_14 H.size (3) (i) (z_19) (1) ((by omega : 3 < 7)) (hpk) (ez_19) (by first | assumption | omega) (hX_16)) (tU 3 hT m5_19 m5_5 m5_20 m4_225 m1_2 m5_7 rfl rfl rfl (by decide +kernel) ⟨Nat.le_of_ble_eq_true rfl, Nat.le_of_ble_eq_true rfl⟩) ⟨PcE_blind, va_recv hK hP (ci := 2) (q0 := 2 + 3) rfl (ix_at (lt71 (by omega)) (cX_knd (by omega))), PcE_of hP hK hD hE hS (fun q h => hFc q h) _⟩ rfl rfl hl.1 rfl (lv_room (Nat.le_of_ble_eq_true rfl)) (fk_get fk_cX0_tells_0 14 rfl) ⟨(by show ((0 + 1) + 6) + 5 ≤ 12; omega), (by show ((0 + 64) + 384) + 320 ≤ 768; omega)⟩) hS (fun q _ h => hFc q h) hFc (fun r_ u_ t_ H locs ht_ hvm_ hw_ hB_ hz_ hk_ hS => ?_)
    obtain ⟨S1_, ad1_⟩ := u_
    dsimp only at hB_ hw_
    obtain ⟨hP, -, hD1_⟩ := hB_
    rw [ht_] at hP
    have hD : va_D A (wX G ad1_ S1_) := hD1_.weaken (fun k q _ h => hFc q.1 h)
    obtain ⟨hX1_, hF1_, hg1_, ⟨z1_, bz1_, ez1_⟩, hv1_, he1_⟩ := hw_
    try rw [show fF S_14 i 3 = fF S i 3 from Fr.F hF_17 (lt71 (by omega)) (fun q => by omega)] at hv1_
    try rw [show fF S_14 i 0 = fF S i 0 from Fr.F hF_17 (lt71 (by omega)) (fun q => by omega)] at hv1_
    have hl : lv_has ls 4 [(0, .ref (ad1_ (2 + 3))), (1, .ref (ad1_ i)), (2, .int (x)), (3, .ref (ad1_ 61))] := by rw [hg1_ (2 + 3) ((lt71 (by omega))), hg1_ i ((lt71 (by omega))), hg1_ 61 ((lt71 (by omega)))]; exact hl
    exact kk_k_21 r_ S1_ ad1_ H locs z1_ ls hX1_ (Fr.tr hF_17 hF1_ (fun j k hj h => by have hc_ := (hF_17).1; have hk_ := Fr.K hF_17 hj; omega)) (fun j hj => (hg1_ j (Nat.lt_of_lt_of_le hj (Nat.add_le_add_left (hF_17).1 71))).trans (hg_18 j hj)) (by omega) ez1_ (hv1_.trans (bV_3 _ _ _).symm) he1_ hP hD hS hl
  · exact absurd hq36 (by omega)
  · exact absurd hq36 (by omega)
  · refine va_calli (va_runU (As := [.ref (ad_15 i), .int (1), .ref (ad_15 61)]) (rest := [.int ((bV (nI 6) (fF S i 3) (fF S i 0) x * 2))]) ⟨hx, hb, hml, hown, hT⟩ (c_x10_buysE l G ad_15 S_14 H.size (6) (i) (z_19) (1) ((by omega : 6 < 7)) (hpk) (ez_19) (by first | assumption | omega) (hX_16)) (tO 3 hT m5_19 m5_5 m4_225 m5_21 m5_2 m1_8 m5_3 m5_7 rfl rfl (by decide +kernel) ⟨Nat.le_of_ble_eq_true rfl, Nat.le_of_ble_eq_true rfl⟩) ⟨PcE_blind, va_recv hK hP (ci := 12) (q0 := 2 + 6) rfl (ix_at (lt71 (by omega)) (cX_knd (by omega))), PcE_of hP hK hD hE hS (fun q h => hFc q h) _⟩ rfl rfl hl.1 rfl (lv_room (Nat.le_of_ble_eq_true rfl)) (fk_get fk_cX0_tells_0 14 rfl) ⟨(by show ((0 + 1) + 6) + 5 ≤ 12; omega), (by show ((0 + 64) + 384) + 320 ≤ 768; omega)⟩) hS (fun q _ h => hFc q h) hFc (fun r_ u_ t_ H locs ht_ hvm_ hw_ hB_ hz_ hk_ hS => ?_)
    obtain ⟨S1_, ad1_⟩ := u_
    dsimp only at hB_ hw_
    obtain ⟨hP, -, hD1_⟩ := hB_
    rw [ht_] at hP
    have hD : va_D A (wX G ad1_ S1_) := hD1_.weaken (fun k q _ h => hFc q.1 h)
    obtain ⟨hX1_, hF1_, hg1_, ⟨z1_, bz1_, ez1_⟩, hv1_, he1_⟩ := hw_
    try rw [show fF S_14 i 3 = fF S i 3 from Fr.F hF_17 (lt71 (by omega)) (fun q => by omega)] at hv1_
    try rw [show fF S_14 i 0 = fF S i 0 from Fr.F hF_17 (lt71 (by omega)) (fun q => by omega)] at hv1_
    have hl : lv_has ls 4 [(0, .ref (ad1_ (2 + 6))), (1, .ref (ad1_ i)), (2, .int (x)), (3, .ref (ad1_ 61))] := by rw [hg1_ (2 + 6) ((lt71 (by omega))), hg1_ i ((lt71 (by omega))), hg1_ 61 ((lt71 (by omega)))]; exact hl
    exact kk_k_21 r_ S1_ ad1_ H locs z1_ ls hX1_ (Fr.tr hF_17 hF1_ (fun j k hj h => by have hc_ := (hF_17).1; have hk_ := Fr.K hF_17 hj; omega)) (fun j hj => (hg1_ j (Nat.lt_of_lt_of_le hj (Nat.add_le_add_left (hF_17).1 71))).trans (hg_18 j hj)) (by omega) ez1_ (hv1_.trans (bV_6 _ _ _).symm) he1_ hP hD hS hl
set_option maxHeartbeats 800000 in
set_option maxRecDepth 100000 in
theorem c_x6_tellsE (l : Launch) (G : GG) (ad : Nat → Nat) (S : FS) (sz : Nat) (qz i z : Nat) (x : Int32) (hq : qz < 7) (hpk : pk i = 7) (hzz : fF S 61 2 = nI z) (hzN : z + 12 ≤ 40) (hX : XI S) : Met l yX6_tells (Cond.code yX6_tells cX6_tells 4 (some .int) :: TBL) ({ frames := 19, cells := 12, slots := 768, locals := 587 } : Room) (PcE G (wX G ad S) sz [.ref (ad (2 + qz)), .ref (ad i), .int (x), .ref (ad 61)]) (va_Qi (fun (r : Int32) (u : FS × (Nat → Nat)) => XI u.1 ∧ Fr (fun j k => j = 61 ∨ (71 ≤ j ∧ (fK S j = 2 ∨ 71 + fC S ≤ j))) S u.1 ∧ (∀ j, j < 71 + fC S → u.2 j = ad j) ∧ (∃ z', z' ≤ z + 12 ∧ fF u.1 61 2 = nI z') ∧ r = bV (nI qz) ((fF S i 3)) ((fF S i 0)) ((x - ((fF S i 0)))) * 2 ∧ EB z ((60 :: 12 :: bL qz)) S u.1) (fun u t => BW G (va_A (wX G ad S) sz) (wX G u.2 u.1) t) (va_A (wX G ad S) sz)) 12 768 (va_A (wX G ad S) sz) := by
  refine Met.ofW (cc := cX6_tells) (maxL := 4) (ret := (some .int)) (by decide) rfl ?_
  intro p e s m args below meth c₀ s₁ B hml hv
  obtain ⟨rfl, hsz, hP, hK, hD0, hE⟩ := hv
  have hx := B.exec
  have hb := B.bytes
  have hr := B.returns
  have hT : ∀ w ∈ TBL, w.before ([.ref (ad (2 + qz)), .ref (ad i), .int (x), .ref (ad 61)] : List Value).toArray s = true := fun w h => atoms_spec (ws := Cond.code yX6_tells cX6_tells 4 (some .int) :: TBL) B.pre w (List.mem_cons_of_mem _ h)
  have hown : s.vm.findClass "LittleMore$Leaving" = some m.cls := findClass_of_methodNamed B.named
  have hlocks := B.notSynchronized
  subst hsz
  have hD := hD0.self (sz := s.heap.size)
  generalize hAe : va_A (wX G ad S) s.heap.size = A at hD hE ⊢
  have hA : ∀ q : Nat, s.heap.size ≤ q → A q := fun q h => by rw [← hAe]; exact Or.inr h
  have hS : va_S A s.heap s.heap [] := va_S.rf
  have hP : va_P G.1 vwCl (wX G ad S) s.heap := hP
  have hl := lv_entry ([.ref (ad (2 + qz)), .ref (ad i), .int (x), .ref (ad 61)]) (n := 4) (Nat.le_of_ble_eq_true rfl)
  rw [lg_entry_eq]
  generalize (lg_sl ([.ref (ad (2 + qz)), .ref (ad i), .int (x), .ref (ad 61)]) ++ List.replicate (4 - (lg_sl ([.ref (ad (2 + qz)), .ref (ad i), .int (x), .ref (ad 61)])).length) Slot.unset).toArray = ls at hl ⊢
  have hl : lv_has ls 4 [(0, .ref (ad (2 + qz))), (1, .ref (ad i)), (2, .int (x)), (3, .ref (ad 61))] := hl
  refine W_abs (fun Q hQ => ?_)
  generalize ([.ref (ad (2 + qz)), .ref (ad i), .int (x), .ref (ad 61)] : List Value).toArray = args at hT hQ ⊢
  have hb_i := pk7 hpk
  obtain ⟨r_k, hr_k⟩ := kcl_at hq
  refine lv_aload_n hx hb (fk_get fk_cX6_tells_0 0 rfl) rfl (lv_at hl 3 rfl) ?_
  refine lv_bipush (v := 60) hx hb (fk_get fk_cX6_tells_0 1 rfl) (by decide) ?_
  have hFc := va_self hD hS hA
  refine va_csq (W.runS (As := [.int (60)]) (rest := [.ref (ad 61)]) ⟨hx, hb, hml, hown, hT⟩ (c_jvalueOf l G ad S s.heap.size (60) (by first | assumption | omega) (hX)) (tS 1 hT m5_27 m4_130 m1_26 m4_131 rfl rfl (by decide +kernel) ⟨Nat.le_of_ble_eq_true rfl, Nat.le_of_ble_eq_true rfl⟩) ⟨PcE_blind, PcE_of hP hK hD hE hS (fun q h => hFc q h) _⟩ rfl rfl hl.1 rfl (lv_room (Nat.le_of_ble_eq_true rfl)) (fk_get fk_cX6_tells_0 2 rfl) ⟨Nat.zero_le _, Nat.zero_le _⟩) (fun r_1 hw_2 => ?_)
  try dsimp only at hw_2
  obtain ⟨jb_3, hb_3, eb_3, rfl⟩ := hw_2
  rw [show va_rf (some (G.2.2.2 jb_3)) = .ref (G.2.2.2 jb_3) from rfl]
  have hFc := va_self hD hS hA
  refine va_calli (va_runV (As := [.ref (G.2.2.2 jb_3)]) (rest := []) ⟨hx, hb, hml, hown, hT⟩ (c_jadd l G ad S s.heap.size (z) (jb_3) (hzz) (by first | assumption | omega) (hb_3) (hX)) (tV 1 hT m5_28 m4_150 m4_151 m1_15 m4_152 rfl rfl (by decide +kernel) ⟨Nat.le_of_ble_eq_true rfl, Nat.le_of_ble_eq_true rfl⟩) ⟨PcE_blind, va_recv hK hP (ci := 1) (q0 := 61) rfl (ix_at (lt71 (by omega)) (cX_lst G ad S)), PcE_of hP hK hD hE hS (fun q h => hFc q h) _⟩ rfl rfl hl.1 rfl (lv_room (Nat.le_of_ble_eq_true rfl)) (fk_get fk_cX6_tells_0 3 rfl) ⟨Nat.le_of_ble_eq_true rfl, Nat.le_of_ble_eq_true rfl⟩) hS (fun q _ h => hFc q h) hFc (fun r_3 u_ t_ H locs ht_ hvm_ hw_4 hB_ hz_ hk_ hS => ?_)
  obtain ⟨S_5, ad_6⟩ := u_
  dsimp only at hB_ hw_4
  obtain ⟨hP, -, hD1_⟩ := hB_
  rw [ht_] at hP
  have hD : va_D A (wX G ad_6 S_5) := hD1_.weaken (fun k q _ h => hFc q.1 h)
  obtain ⟨hX_7, hF_8_, hg_9_, hw_4⟩ := hw_4
  have hg_9 : ∀ j, j < 71 + fC S → ad_6 j = ad j := fun j hj => (hg_9_ j (Nat.lt_of_lt_of_le hj (Nat.add_le_add_left ((Fr.rf : Fr (fun j k => j = 61 ∨ (71 ≤ j ∧ (fK S j = 2 ∨ 71 + fC S ≤ j))) S S)).1 71))).trans ((fun _ _ => rfl) j hj)
  have hF_8 : Fr (fun j k => j = 61 ∨ (71 ≤ j ∧ (fK S j = 2 ∨ 71 + fC S ≤ j))) S S_5 := Fr.tr (Fr.rf : Fr (fun j k => j = 61 ∨ (71 ≤ j ∧ (fK S j = 2 ∨ 71 + fC S ≤ j))) S S) hF_8_ (fun j k hj h => by have hc_ := ((Fr.rf : Fr (fun j k => j = 61 ∨ (71 ≤ j ∧ (fK S j = 2 ∨ 71 + fC S ≤ j))) S S)).1; have hk_ := Fr.K ((Fr.rf : Fr (fun j k => j = 61 ∨ (71 ≤ j ∧ (fK S j = 2 ∨ 71 + fC S ≤ j))) S S)) hj; omega)
  have hl : lv_has ls 4 [(0, .ref (ad_6 (2 + qz))), (1, .ref (ad_6 i)), (2, .int (x)), (3, .ref (ad_6 61))] := by rw [hg_9_ (2 + qz) ((lt71 (by omega))), hg_9_ i ((lt71 (by omega))), hg_9_ 61 ((lt71 (by omega)))]; exact hl
  obtain ⟨ez_10, hw_4_⟩ := hw_4
  have eb_11 : EB z ([] ++ [60]) S S_5 := eb_app (eb_0 hzz) hzz (by omega) (by omega) (by simp only [List.length_append, List.length_cons, List.length_nil]; have := aL_len qz; have := bL_len qz; omega) (eb_1 ez_10 hw_4_ eb_3)
  refine lv_pop hx hb (fk_get fk_cX6_tells_0 4 rfl) rfl ?_
  refine lv_aload_n hx hb (fk_get fk_cX6_tells_0 5 rfl) rfl (lv_at hl 0 rfl) ?_
  refine lv_aload_n hx hb (fk_get fk_cX6_tells_0 6 rfl) rfl (lv_at hl 1 rfl) ?_
  refine lv_iload_n hx hb (fk_get fk_cX6_tells_0 7 rfl) rfl (lv_at hl 2 rfl) ?_
  refine lv_aload_n hx hb (fk_get fk_cX6_tells_0 8 rfl) rfl (lv_at hl 1 rfl) ?_
  refine va_get (D := G.1) (ci := 5) (v := .int (fF S_5 i 0)) (C := RX3) (T := TX3) (N := 10) hx hb hT inX3 hown hK hP i (ix_at (lt71 (by omega)) (cX_cust hpk)) rfl 0 (by decide) (hT _ m1_136) (fun _ h9 => h9) rfl (fk_get fk_cX6_tells_0 9 rfl) ?_
  have ff_12 : fF S_5 i 0 = fF S i 0 := Fr.F hF_8 (lt71 (by omega)) (fun q => by omega)
  refine lv_isub hx hb (fk_get fk_cX6_tells_0 10 rfl) ?_
  refine lv_aload_n hx hb (fk_get fk_cX6_tells_0 11 rfl) rfl (lv_at hl 3 rfl) ?_
  have hFc := va_self hD hS hA
  refine va_calli (sx_run (C := r_k.1) (As := [.ref (ad_6 i), .int ((x - (fF S_5 i 0))), .ref (ad_6 61)]) (rest := []) (hK.1 (kcl qz) r_k hr_k).2 ⟨hx, hb, hml, hown, hT⟩ (c_x5_tells6E l G ad_6 S_5 H.size (qz) (i) ((z + 1)) ((x - (fF S_5 i 0))) (hq) (hpk) (ez_10) (by first | assumption | omega) (hX_7)) (sx_of 3 hT m5_29 m5_30 m1_90 m1_66 m5_10 m1_2 m5_34 rfl rfl rfl (by decide +kernel) ⟨Nat.le_of_ble_eq_true rfl, Nat.le_of_ble_eq_true rfl⟩) ⟨PcE_blind, va_recv hK hP hr_k (ix_at (lt71 (by omega)) (cX_knd hq)), PcE_of hP hK hD hE hS (fun q h => hFc q h) _⟩ rfl rfl hl.1 rfl (lv_room (Nat.le_of_ble_eq_true rfl)) (fk_get fk_cX6_tells_0 12 rfl) ⟨(by show (0 + 1) + 6 ≤ 12; omega), (by show (0 + 64) + 384 ≤ 768; omega)⟩) hS (fun q _ h => hFc q h) hFc (fun r_13 u_ t_ H locs ht_ hvm_ hw_14 hB_ hz_ hk_ hS => ?_)
  obtain ⟨S_15, ad_16⟩ := u_
  dsimp only at hB_ hw_14
  obtain ⟨hP, -, hD1_⟩ := hB_
  rw [ht_] at hP
  have hD : va_D A (wX G ad_16 S_15) := hD1_.weaken (fun k q _ h => hFc q.1 h)
  obtain ⟨hX_17, hF_18_, hg_19_, hw_14⟩ := hw_14
  have hg_19 : ∀ j, j < 71 + fC S → ad_16 j = ad j := fun j hj => (hg_19_ j (Nat.lt_of_lt_of_le hj (Nat.add_le_add_left (hF_8).1 71))).trans (hg_9 j hj)
  have hF_18 : Fr (fun j k => j = 61 ∨ (71 ≤ j ∧ (fK S j = 2 ∨ 71 + fC S ≤ j))) S S_15 := Fr.tr hF_8 hF_18_ (fun j k hj h => by have hc_ := (hF_8).1; have hk_ := Fr.K hF_8 hj; omega)
  have hl : lv_has ls 4 [(0, .ref (ad_16 (2 + qz))), (1, .ref (ad_16 i)), (2, .int (x)), (3, .ref (ad_16 61))] := by rw [hg_19_ (2 + qz) ((lt71 (by omega))), hg_19_ i ((lt71 (by omega))), hg_19_ 61 ((lt71 (by omega)))]; exact hl
  obtain ⟨⟨z_20, bz_20, ez_20⟩, hvz_20, hez_20⟩ := hw_14
  try rw [show fF S_5 i 3 = fF S i 3 from Fr.F hF_8 (lt71 (by omega)) (fun q => by omega)] at hvz_20
  try rw [show fF S_5 i 0 = fF S i 0 from Fr.F hF_8 (lt71 (by omega)) (fun q => by omega)] at hvz_20
  subst hvz_20
  have eb_21 : EB z (([] ++ [60]) ++ ((12 :: bL qz))) S S_15 := eb_app eb_11 ez_10 (by omega) (by omega) (by simp only [List.length_append, List.length_cons, List.length_nil]; have := aL_len qz; have := bL_len qz; omega) hez_20
  subst hQ
  have hpost : XI S_15 ∧ Fr (fun j k => j = 61 ∨ (71 ≤ j ∧ (fK S j = 2 ∨ 71 + fC S ≤ j))) S S_15 ∧ (∀ j, j < 71 + fC S → ad_16 j = ad j) ∧ (∃ z', z' ≤ z + 12 ∧ fF S_15 61 2 = nI z') ∧ ((bV (nI qz) (fF S i 3) (fF S i 0) (((x - (fF S i 0)))) * 2) : Int32) = bV (nI qz) ((fF S i 3)) ((fF S i 0)) ((x - ((fF S i 0)))) * 2 ∧ EB z ((60 :: 12 :: bL qz)) S S_15 := by
    exact ⟨hX_17, hF_18, hg_19, ⟨⟨_, by omega, ez_20⟩, by first | rfl | rw [ff_12], eb_21⟩⟩
  refine W.widen (k := 12) (n := 768) (by omega) (by omega) ?_
  exact W.iret (v := (bV (nI qz) (fF S i 3) (fF S i 0) (((x - (fF S i 0)))) * 2)) hx hb hr (fun t_ ht_ hW_ => ⟨⟨(bV (nI qz) (fF S i 3) (fF S i 0) (((x - (fF S i 0)))) * 2), (S_15, ad_16), rfl, hpost, by rw [ht_]; exact hP, va_K.moved hW_.alike hK, hD⟩, hS.F ht_⟩) hS.2.2 (fk_get fk_cX6_tells_0 13 rfl)
/-- what act() answers and leaves -/
def ActP (n : Nat) (c w x r : Int32) (S U : FS) : Prop := (r = 0 ∧ fF U 61 2 = nI 0 ∧ ((c < 0 ∨ nI n ≤ c) ∨ (¬ w = 0 ∧ ¬ w = 1 ∧ ¬ w = 2))) ∨
  ∃ j q, j < n ∧ c = nI j ∧ q < 7 ∧ fR S (21 + 6 * 0 + j) 2 = some (2 + q) ∧
    ((w = 0 ∧ r = aV (nI q) (fF S (21 + 6 * 0 + j) 3) (fF S (21 + 6 * 0 + j) 0) x ∧ EC (aL q) U) ∨ (w = 1 ∧ r = bV (nI q) (fF S (21 + 6 * 0 + j) 3) (fF S (21 + 6 * 0 + j) 0) x ∧ EC (bL q) U) ∨ (w = 2 ∧ r = tlV (nI q) (fF S (21 + 6 * 0 + j) 3) (fF S (21 + 6 * 0 + j) 0) x ∧ EC (tL q) U))
set_option maxHeartbeats 800000 in
set_option maxRecDepth 100000 in
theorem c_x11_actE (l : Launch) (G : GG) (ad : Nat → Nat) (S : FS) (sz : Nat) (n : Nat) (c_ w_ x : Int32) (hn : fF S (9 + 0) 3 = nI n) (hn6 : n ≤ 6) (hX : XI S) : Met l yX11_act (Cond.code yX11_act cX11_act 5 (some .int) :: TBL) ({ frames := 20, cells := 12, slots := 768, locals := 614 } : Room) (PcE G (wX G ad S) sz [.ref (ad 0), .int (c_), .int (w_), .int (x)]) (va_Qi (fun (r : Int32) (u : FS × (Nat → Nat)) => XI u.1 ∧ Fr (fun j k => j = 61 ∨ (71 ≤ j ∧ (fK S j = 2 ∨ 71 + fC S ≤ j))) S u.1 ∧ (∀ j, j < 71 + fC S → u.2 j = ad j) ∧ (∃ z', z' ≤ 12 ∧ fF u.1 61 2 = nI z') ∧ ActP n c_ w_ x r S u.1) (fun u t => BW G (va_A (wX G ad S) sz) (wX G u.2 u.1) t) (va_A (wX G ad S) sz)) 12 768 (va_A (wX G ad S) sz) := by
  refine Met.ofW (cc := cX11_act) (maxL := 5) (ret := (some .int)) (by decide) rfl ?_
  intro p e s m args below meth c₀ s₁ B hml hv
  obtain ⟨rfl, hsz, hP, hK, hD0, hE⟩ := hv
  have hx := B.exec
  have hb := B.bytes
  have hr := B.returns
  have hT : ∀ w ∈ TBL, w.before ([.ref (ad 0), .int (c_), .int (w_), .int (x)] : List Value).toArray s = true := fun w h => atoms_spec (ws := Cond.code yX11_act cX11_act 5 (some .int) :: TBL) B.pre w (List.mem_cons_of_mem _ h)
  have hown : s.vm.findClass "LittleMore" = some m.cls := findClass_of_methodNamed B.named
  have hlocks := B.notSynchronized
  subst hsz
  have hD := hD0.self (sz := s.heap.size)
  generalize hAe : va_A (wX G ad S) s.heap.size = A at hD hE ⊢
  have hA : ∀ q : Nat, s.heap.size ≤ q → A q := fun q h => by rw [← hAe]; exact Or.inr h
  have hS : va_S A s.heap s.heap [] := va_S.rf
  have hP : va_P G.1 vwCl (wX G ad S) s.heap := hP
  have hl := lv_entry ([.ref (ad 0), .int (c_), .int (w_), .int (x)]) (n := 5) (Nat.le_of_ble_eq_true rfl)
  rw [lg_entry_eq]
  generalize (lg_sl ([.ref (ad 0), .int (c_), .int (w_), .int (x)]) ++ List.replicate (5 - (lg_sl ([.ref (ad 0), .int (c_), .int (w_), .int (x)])).length) Slot.unset).toArray = ls at hl ⊢
  have hl : lv_has ls 5 [(0, .ref (ad 0)), (1, .int (c_)), (2, .int (w_)), (3, .int (x))] := hl
  refine W_abs (fun Q hQ => ?_)
  generalize ([.ref (ad 0), .int (c_), .int (w_), .int (x)] : List Value).toArray = args at hT hQ ⊢
  refine lv_aload_n hx hb (fk_get fk_cX11_act_0 0 rfl) rfl (lv_at hl 0 rfl) ?_
  refine va_get (D := G.1) (ci := 13) (v := .ref (ad 61)) (C := RX11) (T := TX11) (N := 11) hx hb hT inX11 hown hK hP 0 (ix_at (lt71 (by omega)) (cX_0 G ad S)) rfl 5 (by decide) (hT _ m2_74) (fun _ h9 => h9) rfl (fk_get fk_cX11_act_0 1 rfl) ?_
  have hFc := va_self hD hS hA
  refine va_callv (va_runV (As := []) (rest := []) ⟨hx, hb, hml, hown, hT⟩ (c_jclear l G ad S s.heap.size  (hX)) (tV 0 hT m4_117 m4_118 m4_119 m1_15 m4_120 rfl rfl (by decide +kernel) ⟨Nat.le_of_ble_eq_true rfl, Nat.le_of_ble_eq_true rfl⟩) ⟨PcW_blind, va_recv hK hP (ci := 1) (q0 := 61) rfl (ix_at (lt71 (by omega)) (cX_lst G ad S)), PcW_of hP hK hD _⟩ rfl rfl hl.1 rfl (lv_room (Nat.le_of_ble_eq_true rfl)) (fk_get fk_cX11_act_0 2 rfl) ⟨Nat.zero_le _, Nat.zero_le _⟩) hS (fun q _ h => hFc q h) hFc (fun S_3 t_ H locs ht_ hvm_ hw_2 hB_ hz_ hk_ hS => ?_)
  obtain ⟨hP, -, hD1_⟩ := hB_
  rw [ht_] at hP
  have hD : va_D A (wX G ad S_3) := hD1_.weaken (fun k q _ h => hFc q.1 h)
  try dsimp only at hw_2
  obtain ⟨hX_4, hF_5_, hw_2⟩ := hw_2
  have hF_5 : Fr (fun j k => j = 61 ∨ (71 ≤ j ∧ (fK S j = 2 ∨ 71 + fC S ≤ j))) S S_3 := Fr.trans (Fr.rf : Fr (fun j k => j = 61 ∨ (71 ≤ j ∧ (fK S j = 2 ∨ 71 + fC S ≤ j))) S S) (Fr.mono hF_5_ (fun j k h => by omega))
  refine lv_aload_n hx hb (fk_get fk_cX11_act_0 3 rfl) rfl (lv_at hl 0 rfl) ?_
  refine va_get (D := G.1) (ci := 13) (v := .ref (ad (9 + 0))) (C := RX11) (T := TX11) (N := 11) hx hb hT inX11 hown hK hP 0 (ix_at (lt71 (by omega)) (cX_0 G ad S_3)) rfl 1 (by decide) (hT _ m2_70) (fun _ h9 => h9) rfl (fk_get fk_cX11_act_0 4 rfl) ?_
  refine lv_iload_n hx hb (fk_get fk_cX11_act_0 5 rfl) rfl (lv_at hl 1 rfl) ?_
  refine va_csq (W.runV (As := [.int (c_)]) (rest := []) ⟨hx, hb, hml, hown, hT⟩ (c_x7_at l G ad S_3 H.size (0) (n) (c_) ((by decide : 0 < 3)) (((Fr.F hF_5 (lt71 (by omega)) (fun q => by omega)).trans hn)) (hn6) (hX_4)) (tV 1 hT m2_120 m2_121 m2_122 m1_9 m2_123 rfl rfl (by decide +kernel) ⟨Nat.le_of_ble_eq_true rfl, Nat.le_of_ble_eq_true rfl⟩) ⟨PcW_blind, va_recv hK hP (ci := 9) (q0 := (9 + 0)) rfl (ix_at (lt71 (by omega)) (cX_shop (pk_shop (by decide : 0 < 3)))), PcW_of hP hK hD _⟩ rfl rfl hl.1 rfl (lv_room (Nat.le_of_ble_eq_true rfl)) (fk_get fk_cX11_act_0 6 rfl) ⟨Nat.zero_le _, Nat.zero_le _⟩) (fun r_6 hw_7 => ?_)
  try dsimp only at hw_7
  rcases hw_7 with ⟨j_12, hj_12, ej_12, rfl⟩ | ⟨rfl, hn_12⟩
  · rw [show va_rf (some (ad (21 + 6 * 0 + j_12))) = .ref (ad (21 + 6 * 0 + j_12)) from rfl]
    generalize hg_i_12 : 21 + 6 * 0 + j_12 = i_12
    have hp_i_12 : pk i_12 = 7 := by rw [← hg_i_12]; exact pk_c (by decide : 0 < 3) (show j_12 < 6 by omega)
    have hb_i_12 := pk7 hp_i_12
    refine lv_astore (lv' := [(4, .ref (ad i_12)), (0, .ref (ad 0)), (1, .int (c_)), (2, .int (w_)), (3, .int (x))]) hx hb (fk_get fk_cX11_act_0 7 rfl) hl (by decide) rfl (fun ls hl => ?_)
    refine lv_aload hx hb (fk_get fk_cX11_act_0 8 rfl) (lv_at hl 0 rfl) ?_
    refine lv_ifnonnull (tgt := 24) hx hb (fk_get fk_cX11_act_0 9 rfl) (by decide) ?_
    refine lv_iload_n hx hb (fk_get fk_cX11_act_0 12 rfl) rfl (lv_at hl 3 rfl) ?_
    by_cases c_8 : w_ = (0 : Int32)
    · refine lv_tableIn (off := 27) (tgt := 52) hx hb (dk_get dk_cX11_act_0 0 rfl) (by rw [c_8]; decide) (by rw [c_8]; decide) (by rw [c_8]; rfl) (by decide) ?_
      refine lv_aload hx hb (fk_get fk_cX11_act_0 13 rfl) (lv_at hl 0 rfl) ?_
      obtain ⟨n_9, en_9, bn_9⟩ := XI.kin hX_4 hp_i_12
      refine va_get (D := G.1) (ci := 5) (v := va_rf ((fR S_3 i_12 2).map ad)) (C := RX3) (T := TX3) (N := 10) hx hb hT inX3 hown hK hP i_12 (ix_at (lt71 (by omega)) (cX_cust hp_i_12)) rfl 2 (by decide) (hT _ m1_144) (fun _ h9 => h9) rfl (fk_get fk_cX11_act_0 14 rfl) ?_
      rw [show va_rf ((fR S_3 i_12 2).map ad) = .ref (ad (2 + n_9)) from by rw [en_9]; rfl]
      refine lv_aload hx hb (fk_get fk_cX11_act_0 15 rfl) (lv_at hl 0 rfl) ?_
      refine lv_iload_n hx hb (fk_get fk_cX11_act_0 16 rfl) rfl (lv_at hl 4 rfl) ?_
      refine lv_aload_n hx hb (fk_get fk_cX11_act_0 17 rfl) rfl (lv_at hl 1 rfl) ?_
      refine va_get (D := G.1) (ci := 13) (v := .ref (ad 61)) (C := RX11) (T := TX11) (N := 11) hx hb hT inX11 hown hK hP 0 (ix_at (lt71 (by omega)) (cX_0 G ad S_3)) rfl 5 (by decide) (hT _ m2_74) (fun _ h9 => h9) rfl (fk_get fk_cX11_act_0 18 rfl) ?_
      have kk_k_10 : ∀ (rk_10 : Int32) (Sk_10 : FS) (adk_10 : Nat → Nat) (Hk_10 : Heap) (locsk_10 : List Loc) (zk_10 : Nat) (ls : Array Slot), XI Sk_10 → Fr (fun j k => j = 61 ∨ (71 ≤ j ∧ (fK S j = 2 ∨ 71 + fC S ≤ j))) S Sk_10 → (∀ j, j < 71 + fC S → adk_10 j = ad j) → zk_10 ≤ 0 + 2 → fF Sk_10 61 2 = nI zk_10 → rk_10 = (aV (nI n_9) (fF S i_12 3) (fF S i_12 0) x) → EB 0 (aL n_9) S_3 Sk_10 → va_P G.1 vwCl (wX G adk_10 Sk_10) Hk_10 → va_D A (wX G adk_10 Sk_10) → va_S A s.heap Hk_10 locsk_10 → lv_has ls 5 [(4, .ref (adk_10 i_12)), (0, .ref (adk_10 0)), (1, .int (c_)), (2, .int (w_)), (3, .int (x))] → W p l e ({ frames := 20, cells := 12, slots := 768, locals := 614 } : Room) s m args below meth c₀ Hk_10 locsk_10 (0 + 2) (0 + 128) Q (F0 m 67 ls [.int (rk_10)]) := by
        intro rk_10 Sk_10 adk_10 Hk_10 locsk_10 zk_10 ls hXk_10 hFk_10 hgk_10 bzk_10 ezk_10 hvk_10 hek_10 hP hD hS hl
        subst hvk_10
        have eb_11 : EB 0 ([] ++ aL n_9) S_3 Sk_10 := eb_app (eb_0 hw_2) hw_2 (by omega) (by omega) (by simp only [List.length_append, List.length_cons, List.length_nil]; have := aL_len n_9; have := bL_len n_9; omega) hek_10
        subst hQ
        have hpost : XI Sk_10 ∧ Fr (fun j k => j = 61 ∨ (71 ≤ j ∧ (fK S j = 2 ∨ 71 + fC S ≤ j))) S Sk_10 ∧ (∀ j, j < 71 + fC S → adk_10 j = ad j) ∧ (∃ z', z' ≤ 12 ∧ fF Sk_10 61 2 = nI z') ∧ ActP n c_ w_ x ((aV (nI n_9) (fF S i_12 3) (fF S i_12 0) x) : Int32) S Sk_10 := by
          exact ⟨hXk_10, hFk_10, hgk_10, ⟨⟨_, by omega, ezk_10⟩, by first | exact Or.inr ⟨j_12, n_9, hj_12, ej_12, bn_9, by rw [hg_i_12]; exact ((Fr.R hF_5 (lt71 (by omega)) (fun q => by omega)).symm.trans en_9), Or.inl ⟨by assumption, by rw [hg_i_12], ec_of eb_11⟩⟩ | exact Or.inr ⟨j_12, n_9, hj_12, ej_12, bn_9, by rw [hg_i_12]; exact ((Fr.R hF_5 (lt71 (by omega)) (fun q => by omega)).symm.trans en_9), Or.inr (Or.inl ⟨by assumption, by rw [hg_i_12], ec_of eb_11⟩)⟩ | exact Or.inr ⟨j_12, n_9, hj_12, ej_12, bn_9, by rw [hg_i_12]; exact ((Fr.R hF_5 (lt71 (by omega)) (fun q => by omega)).symm.trans en_9), Or.inr (Or.inr ⟨by assumption, by rw [hg_i_12], ec_of eb_11⟩)⟩⟩⟩
        refine W.widen (k := 12) (n := 768) (by omega) (by omega) ?_
        exact W.iret (v := (aV (nI n_9) (fF S i_12 3) (fF S i_12 0) x)) hx hb hr (fun t_ ht_ hW_ => ⟨⟨(aV (nI n_9) (fF S i_12 3) (fF S i_12 0) x), (Sk_10, adk_10), rfl, hpost, by rw [ht_]; exact hP, va_K.moved hW_.alike hK, hD⟩, hS.F ht_⟩) hS.2.2 (fk_get fk_cX11_act_0 20 rfl)
      have hFc := va_self hD hS hA
      rcases kq7 bn_9 with rfl | rfl | rfl | rfl | rfl | rfl | rfl
      · refine va_calli (va_runU (As := [.ref (ad i_12), .int (x), .ref (ad 61)]) (rest := []) ⟨hx, hb, hml, hown, hT⟩ (c_x5_asksE l G ad S_3 H.size (0) (i_12) (0) (x) ((by omega : 0 < 7)) (hp_i_12) (hw_2) (by first | assumption | omega) (hX_4)) (tU 3 hT m4_121 m4_124 m4_123 m4_122 m1_2 m4_221 rfl rfl rfl (by decide +kernel) ⟨Nat.le_of_ble_eq_true rfl, Nat.le_of_ble_eq_true rfl⟩) ⟨PcE_blind, va_recv hK hP (ci := 7) (q0 := 2 + 0) rfl (ix_at (lt71 (by omega)) (cX_knd (by omega))), PcE_of hP hK hD hE hS (fun q h => hFc q h) _⟩ rfl rfl hl.1 rfl (lv_room (Nat.le_of_ble_eq_true rfl)) (fk_get fk_cX11_act_0 19 rfl) ⟨Nat.le_of_ble_eq_true rfl, Nat.le_of_ble_eq_true rfl⟩) hS (fun q _ h => hFc q h) hFc (fun r_ u_ t_ H locs ht_ hvm_ hw_ hB_ hz_ hk_ hS => ?_)
        obtain ⟨S1_, ad1_⟩ := u_
        dsimp only at hB_ hw_
        obtain ⟨hP, -, hD1_⟩ := hB_
        rw [ht_] at hP
        have hD : va_D A (wX G ad1_ S1_) := hD1_.weaken (fun k q _ h => hFc q.1 h)
        obtain ⟨hX1_, hF1_, hg1_, ⟨z1_, bz1_, ez1_⟩, hv1_, he1_⟩ := hw_
        try rw [show fF S_3 i_12 3 = fF S i_12 3 from Fr.F hF_5 (lt71 (by omega)) (fun q => by omega)] at hv1_
        try rw [show fF S_3 i_12 0 = fF S i_12 0 from Fr.F hF_5 (lt71 (by omega)) (fun q => by omega)] at hv1_
        have hl : lv_has ls 5 [(4, .ref (ad1_ i_12)), (0, .ref (ad1_ 0)), (1, .int (c_)), (2, .int (w_)), (3, .int (x))] := by rw [hg1_ i_12 ((lt71 (by omega))), hg1_ 0 ((lt71 (by omega)))]; exact hl
        exact kk_k_10 r_ S1_ ad1_ H locs z1_ ls hX1_ (Fr.tr hF_5 hF1_ (fun j k hj h => by have hc_ := (hF_5).1; have hk_ := Fr.K hF_5 hj; omega)) (fun j hj => (hg1_ j (Nat.lt_of_lt_of_le hj (Nat.add_le_add_left (hF_5).1 71))).trans ((fun _ _ => rfl) j hj)) (by omega) ez1_ (hv1_.trans (aV_0 _ _ _).symm) he1_ hP hD hS hl
      · refine va_calli (va_runU (As := [.ref (ad i_12), .int (x), .ref (ad 61)]) (rest := []) ⟨hx, hb, hml, hown, hT⟩ (c_x5_asksE l G ad S_3 H.size (1) (i_12) (0) (x) ((by omega : 1 < 7)) (hp_i_12) (hw_2) (by first | assumption | omega) (hX_4)) (tU 3 hT m4_121 m4_124 m4_213 m4_122 m1_2 m4_221 rfl rfl rfl (by decide +kernel) ⟨Nat.le_of_ble_eq_true rfl, Nat.le_of_ble_eq_true rfl⟩) ⟨PcE_blind, va_recv hK hP (ci := 10) (q0 := 2 + 1) rfl (ix_at (lt71 (by omega)) (cX_knd (by omega))), PcE_of hP hK hD hE hS (fun q h => hFc q h) _⟩ rfl rfl hl.1 rfl (lv_room (Nat.le_of_ble_eq_true rfl)) (fk_get fk_cX11_act_0 19 rfl) ⟨Nat.le_of_ble_eq_true rfl, Nat.le_of_ble_eq_true rfl⟩) hS (fun q _ h => hFc q h) hFc (fun r_ u_ t_ H locs ht_ hvm_ hw_ hB_ hz_ hk_ hS => ?_)
        obtain ⟨S1_, ad1_⟩ := u_
        dsimp only at hB_ hw_
        obtain ⟨hP, -, hD1_⟩ := hB_
        rw [ht_] at hP
        have hD : va_D A (wX G ad1_ S1_) := hD1_.weaken (fun k q _ h => hFc q.1 h)
        obtain ⟨hX1_, hF1_, hg1_, ⟨z1_, bz1_, ez1_⟩, hv1_, he1_⟩ := hw_
        try rw [show fF S_3 i_12 3 = fF S i_12 3 from Fr.F hF_5 (lt71 (by omega)) (fun q => by omega)] at hv1_
        try rw [show fF S_3 i_12 0 = fF S i_12 0 from Fr.F hF_5 (lt71 (by omega)) (fun q => by omega)] at hv1_
        have hl : lv_has ls 5 [(4, .ref (ad1_ i_12)), (0, .ref (ad1_ 0)), (1, .int (c_)), (2, .int (w_)), (3, .int (x))] := by rw [hg1_ i_12 ((lt71 (by omega))), hg1_ 0 ((lt71 (by omega)))]; exact hl
        exact kk_k_10 r_ S1_ ad1_ H locs z1_ ls hX1_ (Fr.tr hF_5 hF1_ (fun j k hj h => by have hc_ := (hF_5).1; have hk_ := Fr.K hF_5 hj; omega)) (fun j hj => (hg1_ j (Nat.lt_of_lt_of_le hj (Nat.add_le_add_left (hF_5).1 71))).trans ((fun _ _ => rfl) j hj)) (by omega) ez1_ (hv1_.trans (aV_1 _ _ _).symm) he1_ hP hD hS hl
      · refine va_calli (va_runU (As := [.ref (ad i_12), .int (x), .ref (ad 61)]) (rest := []) ⟨hx, hb, hml, hown, hT⟩ (c_x4_asksE l G ad S_3 H.size (2) (i_12) (0) (x) ((by omega : 2 < 7)) (hp_i_12) (hw_2) (by first | assumption | omega) (hX_4)) (tO 3 hT m4_121 m4_124 m4_122 m4_206 m4_207 m1_4 m4_208 m4_221 rfl rfl (by decide +kernel) ⟨Nat.le_of_ble_eq_true rfl, Nat.le_of_ble_eq_true rfl⟩) ⟨PcE_blind, va_recv hK hP (ci := 6) (q0 := 2 + 2) rfl (ix_at (lt71 (by omega)) (cX_knd (by omega))), PcE_of hP hK hD hE hS (fun q h => hFc q h) _⟩ rfl rfl hl.1 rfl (lv_room (Nat.le_of_ble_eq_true rfl)) (fk_get fk_cX11_act_0 19 rfl) ⟨Nat.le_of_ble_eq_true rfl, Nat.le_of_ble_eq_true rfl⟩) hS (fun q _ h => hFc q h) hFc (fun r_ u_ t_ H locs ht_ hvm_ hw_ hB_ hz_ hk_ hS => ?_)
        obtain ⟨S1_, ad1_⟩ := u_
        dsimp only at hB_ hw_
        obtain ⟨hP, -, hD1_⟩ := hB_
        rw [ht_] at hP
        have hD : va_D A (wX G ad1_ S1_) := hD1_.weaken (fun k q _ h => hFc q.1 h)
        obtain ⟨hX1_, hF1_, hg1_, ⟨z1_, bz1_, ez1_⟩, hv1_, he1_⟩ := hw_
        try rw [show fF S_3 i_12 3 = fF S i_12 3 from Fr.F hF_5 (lt71 (by omega)) (fun q => by omega)] at hv1_
        try rw [show fF S_3 i_12 0 = fF S i_12 0 from Fr.F hF_5 (lt71 (by omega)) (fun q => by omega)] at hv1_
        have hl : lv_has ls 5 [(4, .ref (ad1_ i_12)), (0, .ref (ad1_ 0)), (1, .int (c_)), (2, .int (w_)), (3, .int (x))] := by rw [hg1_ i_12 ((lt71 (by omega))), hg1_ 0 ((lt71 (by omega)))]; exact hl
        exact kk_k_10 r_ S1_ ad1_ H locs z1_ ls hX1_ (Fr.tr hF_5 hF1_ (fun j k hj h => by have hc_ := (hF_5).1; have hk_ := Fr.K hF_5 hj; omega)) (fun j hj => (hg1_ j (Nat.lt_of_lt_of_le hj (Nat.add_le_add_left (hF_5).1 71))).trans ((fun _ _ => rfl) j hj)) (by omega) ez1_ (hv1_.trans (aV_2 _ _ _).symm) he1_ hP hD hS hl
      · refine va_calli (va_runU (As := [.ref (ad i_12), .int (x), .ref (ad 61)]) (rest := []) ⟨hx, hb, hml, hown, hT⟩ (c_x5_asksE l G ad S_3 H.size (3) (i_12) (0) (x) ((by omega : 3 < 7)) (hp_i_12) (hw_2) (by first | assumption | omega) (hX_4)) (tU 3 hT m4_121 m4_124 m4_125 m4_122 m1_2 m4_221 rfl rfl rfl (by decide +kernel) ⟨Nat.le_of_ble_eq_true rfl, Nat.le_of_ble_eq_true rfl⟩) ⟨PcE_blind, va_recv hK hP (ci := 2) (q0 := 2 + 3) rfl (ix_at (lt71 (by omega)) (cX_knd (by omega))), PcE_of hP hK hD hE hS (fun q h => hFc q h) _⟩ rfl rfl hl.1 rfl (lv_room (Nat.le_of_ble_eq_true rfl)) (fk_get fk_cX11_act_0 19 rfl) ⟨Nat.le_of_ble_eq_true rfl, Nat.le_of_ble_eq_true rfl⟩) hS (fun q _ h => hFc q h) hFc (fun r_ u_ t_ H locs ht_ hvm_ hw_ hB_ hz_ hk_ hS => ?_)
        obtain ⟨S1_, ad1_⟩ := u_
        dsimp only at hB_ hw_
        obtain ⟨hP, -, hD1_⟩ := hB_
        rw [ht_] at hP
        have hD : va_D A (wX G ad1_ S1_) := hD1_.weaken (fun k q _ h => hFc q.1 h)
        obtain ⟨hX1_, hF1_, hg1_, ⟨z1_, bz1_, ez1_⟩, hv1_, he1_⟩ := hw_
        try rw [show fF S_3 i_12 3 = fF S i_12 3 from Fr.F hF_5 (lt71 (by omega)) (fun q => by omega)] at hv1_
        try rw [show fF S_3 i_12 0 = fF S i_12 0 from Fr.F hF_5 (lt71 (by omega)) (fun q => by omega)] at hv1_
        have hl : lv_has ls 5 [(4, .ref (ad1_ i_12)), (0, .ref (ad1_ 0)), (1, .int (c_)), (2, .int (w_)), (3, .int (x))] := by rw [hg1_ i_12 ((lt71 (by omega))), hg1_ 0 ((lt71 (by omega)))]; exact hl
        exact kk_k_10 r_ S1_ ad1_ H locs z1_ ls hX1_ (Fr.tr hF_5 hF1_ (fun j k hj h => by have hc_ := (hF_5).1; have hk_ := Fr.K hF_5 hj; omega)) (fun j hj => (hg1_ j (Nat.lt_of_lt_of_le hj (Nat.add_le_add_left (hF_5).1 71))).trans ((fun _ _ => rfl) j hj)) (by omega) ez1_ (hv1_.trans (aV_3 _ _ _).symm) he1_ hP hD hS hl
      · refine va_calli (va_runU (As := [.ref (ad i_12), .int (x), .ref (ad 61)]) (rest := []) ⟨hx, hb, hml, hown, hT⟩ (c_x2_asksE l G ad S_3 H.size (4) (i_12) (0) (x) ((by omega : 4 < 7)) (hp_i_12) (hw_2) (by first | assumption | omega) (hX_4)) (tO 3 hT m4_121 m4_124 m4_122 m4_126 m4_127 m1_6 m4_128 m4_221 rfl rfl (by decide +kernel) ⟨Nat.le_of_ble_eq_true rfl, Nat.le_of_ble_eq_true rfl⟩) ⟨PcE_blind, va_recv hK hP (ci := 4) (q0 := 2 + 4) rfl (ix_at (lt71 (by omega)) (cX_knd (by omega))), PcE_of hP hK hD hE hS (fun q h => hFc q h) _⟩ rfl rfl hl.1 rfl (lv_room (Nat.le_of_ble_eq_true rfl)) (fk_get fk_cX11_act_0 19 rfl) ⟨Nat.le_of_ble_eq_true rfl, Nat.le_of_ble_eq_true rfl⟩) hS (fun q _ h => hFc q h) hFc (fun r_ u_ t_ H locs ht_ hvm_ hw_ hB_ hz_ hk_ hS => ?_)
        obtain ⟨S1_, ad1_⟩ := u_
        dsimp only at hB_ hw_
        obtain ⟨hP, -, hD1_⟩ := hB_
        rw [ht_] at hP
        have hD : va_D A (wX G ad1_ S1_) := hD1_.weaken (fun k q _ h => hFc q.1 h)
        obtain ⟨hX1_, hF1_, hg1_, ⟨z1_, bz1_, ez1_⟩, hv1_, he1_⟩ := hw_
        try rw [show fF S_3 i_12 3 = fF S i_12 3 from Fr.F hF_5 (lt71 (by omega)) (fun q => by omega)] at hv1_
        try rw [show fF S_3 i_12 0 = fF S i_12 0 from Fr.F hF_5 (lt71 (by omega)) (fun q => by omega)] at hv1_
        have hl : lv_has ls 5 [(4, .ref (ad1_ i_12)), (0, .ref (ad1_ 0)), (1, .int (c_)), (2, .int (w_)), (3, .int (x))] := by rw [hg1_ i_12 ((lt71 (by omega))), hg1_ 0 ((lt71 (by omega)))]; exact hl
        exact kk_k_10 r_ S1_ ad1_ H locs z1_ ls hX1_ (Fr.tr hF_5 hF1_ (fun j k hj h => by have hc_ := (hF_5).1; have hk_ := Fr.K hF_5 hj; omega)) (fun j hj => (hg1_ j (Nat.lt_of_lt_of_le hj (Nat.add_le_add_left (hF_5).1 71))).trans ((fun _ _ => rfl) j hj)) (by omega) ez1_ (hv1_.trans (aV_4 _ _ _).symm) he1_ hP hD hS hl
      · refine va_calli (va_runU (As := [.ref (ad i_12), .int (x), .ref (ad 61)]) (rest := []) ⟨hx, hb, hml, hown, hT⟩ (c_x4_asksE l G ad S_3 H.size (5) (i_12) (0) (x) ((by omega : 5 < 7)) (hp_i_12) (hw_2) (by first | assumption | omega) (hX_4)) (tO 3 hT m4_121 m4_124 m4_122 m4_212 m4_207 m1_4 m4_208 m4_221 rfl rfl (by decide +kernel) ⟨Nat.le_of_ble_eq_true rfl, Nat.le_of_ble_eq_true rfl⟩) ⟨PcE_blind, va_recv hK hP (ci := 8) (q0 := 2 + 5) rfl (ix_at (lt71 (by omega)) (cX_knd (by omega))), PcE_of hP hK hD hE hS (fun q h => hFc q h) _⟩ rfl rfl hl.1 rfl (lv_room (Nat.le_of_ble_eq_true rfl)) (fk_get fk_cX11_act_0 19 rfl) ⟨Nat.le_of_ble_eq_true rfl, Nat.le_of_ble_eq_true rfl⟩) hS (fun q _ h => hFc q h) hFc (fun r_ u_ t_ H locs ht_ hvm_ hw_ hB_ hz_ hk_ hS => ?_)
        obtain ⟨S1_, ad1_⟩ := u_
        dsimp only at hB_ hw_
        obtain ⟨hP, -, hD1_⟩ := hB_
        rw [ht_] at hP
        have hD : va_D A (wX G ad1_ S1_) := hD1_.weaken (fun k q _ h => hFc q.1 h)
        obtain ⟨hX1_, hF1_, hg1_, ⟨z1_, bz1_, ez1_⟩, hv1_, he1_⟩ := hw_
        try rw [show fF S_3 i_12 3 = fF S i_12 3 from Fr.F hF_5 (lt71 (by omega)) (fun q => by omega)] at hv1_
        try rw [show fF S_3 i_12 0 = fF S i_12 0 from Fr.F hF_5 (lt71 (by omega)) (fun q => by omega)] at hv1_
        have hl : lv_has ls 5 [(4, .ref (ad1_ i_12)), (0, .ref (ad1_ 0)), (1, .int (c_)), (2, .int (w_)), (3, .int (x))] := by rw [hg1_ i_12 ((lt71 (by omega))), hg1_ 0 ((lt71 (by omega)))]; exact hl
        exact kk_k_10 r_ S1_ ad1_ H locs z1_ ls hX1_ (Fr.tr hF_5 hF1_ (fun j k hj h => by have hc_ := (hF_5).1; have hk_ := Fr.K hF_5 hj; omega)) (fun j hj => (hg1_ j (Nat.lt_of_lt_of_le hj (Nat.add_le_add_left (hF_5).1 71))).trans ((fun _ _ => rfl) j hj)) (by omega) ez1_ (hv1_.trans (aV_5 _ _ _).symm) he1_ hP hD hS hl
      · refine va_calli (va_runU (As := [.ref (ad i_12), .int (x), .ref (ad 61)]) (rest := []) ⟨hx, hb, hml, hown, hT⟩ (c_x10_asksE l G ad S_3 H.size (6) (i_12) (0) (x) ((by omega : 6 < 7)) (hp_i_12) (hw_2) (by first | assumption | omega) (hX_4)) (tO 3 hT m4_121 m4_124 m4_122 m4_214 m4_215 m1_8 m4_216 m4_221 rfl rfl (by decide +kernel) ⟨Nat.le_of_ble_eq_true rfl, Nat.le_of_ble_eq_true rfl⟩) ⟨PcE_blind, va_recv hK hP (ci := 12) (q0 := 2 + 6) rfl (ix_at (lt71 (by omega)) (cX_knd (by omega))), PcE_of hP hK hD hE hS (fun q h => hFc q h) _⟩ rfl rfl hl.1 rfl (lv_room (Nat.le_of_ble_eq_true rfl)) (fk_get fk_cX11_act_0 19 rfl) ⟨Nat.le_of_ble_eq_true rfl, Nat.le_of_ble_eq_true rfl⟩) hS (fun q _ h => hFc q h) hFc (fun r_ u_ t_ H locs ht_ hvm_ hw_ hB_ hz_ hk_ hS => ?_)
        obtain ⟨S1_, ad1_⟩ := u_
        dsimp only at hB_ hw_
        obtain ⟨hP, -, hD1_⟩ := hB_
        rw [ht_] at hP
        have hD : va_D A (wX G ad1_ S1_) := hD1_.weaken (fun k q _ h => hFc q.1 h)
        obtain ⟨hX1_, hF1_, hg1_, ⟨z1_, bz1_, ez1_⟩, hv1_, he1_⟩ := hw_
        try rw [show fF S_3 i_12 3 = fF S i_12 3 from Fr.F hF_5 (lt71 (by omega)) (fun q => by omega)] at hv1_
        try rw [show fF S_3 i_12 0 = fF S i_12 0 from Fr.F hF_5 (lt71 (by omega)) (fun q => by omega)] at hv1_
        have hl : lv_has ls 5 [(4, .ref (ad1_ i_12)), (0, .ref (ad1_ 0)), (1, .int (c_)), (2, .int (w_)), (3, .int (x))] := by rw [hg1_ i_12 ((lt71 (by omega))), hg1_ 0 ((lt71 (by omega)))]; exact hl
        exact kk_k_10 r_ S1_ ad1_ H locs z1_ ls hX1_ (Fr.tr hF_5 hF1_ (fun j k hj h => by have hc_ := (hF_5).1; have hk_ := Fr.K hF_5 hj; omega)) (fun j hj => (hg1_ j (Nat.lt_of_lt_of_le hj (Nat.add_le_add_left (hF_5).1 71))).trans ((fun _ _ => rfl) j hj)) (by omega) ez1_ (hv1_.trans (aV_6 _ _ _).symm) he1_ hP hD hS hl
    by_cases c_12 : w_ = (1 : Int32)
    · refine lv_tableIn (off := 43) (tgt := 68) hx hb (dk_get dk_cX11_act_0 0 rfl) (by rw [c_12]; decide) (by rw [c_12]; decide) (by rw [c_12]; rfl) (by decide) ?_
      refine lv_aload hx hb (fk_get fk_cX11_act_0 21 rfl) (lv_at hl 0 rfl) ?_
      obtain ⟨n_13, en_13, bn_13⟩ := XI.kin hX_4 hp_i_12
      refine va_get (D := G.1) (ci := 5) (v := va_rf ((fR S_3 i_12 2).map ad)) (C := RX3) (T := TX3) (N := 10) hx hb hT inX3 hown hK hP i_12 (ix_at (lt71 (by omega)) (cX_cust hp_i_12)) rfl 2 (by decide) (hT _ m1_144) (fun _ h9 => h9) rfl (fk_get fk_cX11_act_0 22 rfl) ?_
      rw [show va_rf ((fR S_3 i_12 2).map ad) = .ref (ad (2 + n_13)) from by rw [en_13]; rfl]
      refine lv_aload hx hb (fk_get fk_cX11_act_0 23 rfl) (lv_at hl 0 rfl) ?_
      refine lv_iload_n hx hb (fk_get fk_cX11_act_0 24 rfl) rfl (lv_at hl 4 rfl) ?_
      refine lv_aload_n hx hb (fk_get fk_cX11_act_0 25 rfl) rfl (lv_at hl 1 rfl) ?_
      refine va_get (D := G.1) (ci := 13) (v := .ref (ad 61)) (C := RX11) (T := TX11) (N := 11) hx hb hT inX11 hown hK hP 0 (ix_at (lt71 (by omega)) (cX_0 G ad S_3)) rfl 5 (by decide) (hT _ m2_74) (fun _ h9 => h9) rfl (fk_get fk_cX11_act_0 26 rfl) ?_
      have kk_k_14 : ∀ (rk_14 : Int32) (Sk_14 : FS) (adk_14 : Nat → Nat) (Hk_14 : Heap) (locsk_14 : List Loc) (zk_14 : Nat) (ls : Array Slot), XI Sk_14 → Fr (fun j k => j = 61 ∨ (71 ≤ j ∧ (fK S j = 2 ∨ 71 + fC S ≤ j))) S Sk_14 → (∀ j, j < 71 + fC S → adk_14 j = ad j) → zk_14 ≤ 0 + 5 → fF Sk_14 61 2 = nI zk_14 → rk_14 = (bV (nI n_13) (fF S i_12 3) (fF S i_12 0) x) → EB 0 (bL n_13) S_3 Sk_14 → va_P G.1 vwCl (wX G adk_14 Sk_14) Hk_14 → va_D A (wX G adk_14 Sk_14) → va_S A s.heap Hk_14 locsk_14 → lv_has ls 5 [(4, .ref (adk_14 i_12)), (0, .ref (adk_14 0)), (1, .int (c_)), (2, .int (w_)), (3, .int (x))] → W p l e ({ frames := 20, cells := 12, slots := 768, locals := 614 } : Room) s m args below meth c₀ Hk_14 locsk_14 (0 + 5) (0 + 320) Q (F0 m 83 ls [.int (rk_14)]) := by
        intro rk_14 Sk_14 adk_14 Hk_14 locsk_14 zk_14 ls hXk_14 hFk_14 hgk_14 bzk_14 ezk_14 hvk_14 hek_14 hP hD hS hl
        subst hvk_14
        have eb_15 : EB 0 ([] ++ bL n_13) S_3 Sk_14 := eb_app (eb_0 hw_2) hw_2 (by omega) (by omega) (by simp only [List.length_append, List.length_cons, List.length_nil]; have := aL_len n_13; have := bL_len n_13; omega) hek_14
        subst hQ
        have hpost : XI Sk_14 ∧ Fr (fun j k => j = 61 ∨ (71 ≤ j ∧ (fK S j = 2 ∨ 71 + fC S ≤ j))) S Sk_14 ∧ (∀ j, j < 71 + fC S → adk_14 j = ad j) ∧ (∃ z', z' ≤ 12 ∧ fF Sk_14 61 2 = nI z') ∧ ActP n c_ w_ x ((bV (nI n_13) (fF S i_12 3) (fF S i_12 0) x) : Int32) S Sk_14 := by
          exact ⟨hXk_14, hFk_14, hgk_14, ⟨⟨_, by omega, ezk_14⟩, by first | exact Or.inr ⟨j_12, n_13, hj_12, ej_12, bn_13, by rw [hg_i_12]; exact ((Fr.R hF_5 (lt71 (by omega)) (fun q => by omega)).symm.trans en_13), Or.inl ⟨by assumption, by rw [hg_i_12], ec_of eb_15⟩⟩ | exact Or.inr ⟨j_12, n_13, hj_12, ej_12, bn_13, by rw [hg_i_12]; exact ((Fr.R hF_5 (lt71 (by omega)) (fun q => by omega)).symm.trans en_13), Or.inr (Or.inl ⟨by assumption, by rw [hg_i_12], ec_of eb_15⟩)⟩ | exact Or.inr ⟨j_12, n_13, hj_12, ej_12, bn_13, by rw [hg_i_12]; exact ((Fr.R hF_5 (lt71 (by omega)) (fun q => by omega)).symm.trans en_13), Or.inr (Or.inr ⟨by assumption, by rw [hg_i_12], ec_of eb_15⟩)⟩⟩⟩
        refine W.widen (k := 12) (n := 768) (by omega) (by omega) ?_
        exact W.iret (v := (bV (nI n_13) (fF S i_12 3) (fF S i_12 0) x)) hx hb hr (fun t_ ht_ hW_ => ⟨⟨(bV (nI n_13) (fF S i_12 3) (fF S i_12 0) x), (Sk_14, adk_14), rfl, hpost, by rw [ht_]; exact hP, va_K.moved hW_.alike hK, hD⟩, hS.F ht_⟩) hS.2.2 (fk_get fk_cX11_act_0 28 rfl)
      have hFc := va_self hD hS hA
      rcases kq7 bn_13 with rfl | rfl | rfl | rfl | rfl | rfl | rfl
      · refine va_calli (va_runU (As := [.ref (ad i_12), .int (x), .ref (ad 61)]) (rest := []) ⟨hx, hb, hml, hown, hT⟩ (c_x5_buysE l G ad S_3 H.size (0) (i_12) (0) (x) ((by omega : 0 < 7)) (hp_i_12) (hw_2) (by first | assumption | omega) (hX_4)) (tU 3 hT m4_224 m4_227 m4_226 m4_225 m1_2 m5_7 rfl rfl rfl (by decide +kernel) ⟨Nat.le_of_ble_eq_true rfl, Nat.le_of_ble_eq_true rfl⟩) ⟨PcE_blind, va_recv hK hP (ci := 7) (q0 := 2 + 0) rfl (ix_at (lt71 (by omega)) (cX_knd (by omega))), PcE_of hP hK hD hE hS (fun q h => hFc q h) _⟩ rfl rfl hl.1 rfl (lv_room (Nat.le_of_ble_eq_true rfl)) (fk_get fk_cX11_act_0 27 rfl) ⟨Nat.le_of_ble_eq_true rfl, Nat.le_of_ble_eq_true rfl⟩) hS (fun q _ h => hFc q h) hFc (fun r_ u_ t_ H locs ht_ hvm_ hw_ hB_ hz_ hk_ hS => ?_)
        obtain ⟨S1_, ad1_⟩ := u_
        dsimp only at hB_ hw_
        obtain ⟨hP, -, hD1_⟩ := hB_
        rw [ht_] at hP
        have hD : va_D A (wX G ad1_ S1_) := hD1_.weaken (fun k q _ h => hFc q.1 h)
        obtain ⟨hX1_, hF1_, hg1_, ⟨z1_, bz1_, ez1_⟩, hv1_, he1_⟩ := hw_
        try rw [show fF S_3 i_12 3 = fF S i_12 3 from Fr.F hF_5 (lt71 (by omega)) (fun q => by omega)] at hv1_
        try rw [show fF S_3 i_12 0 = fF S i_12 0 from Fr.F hF_5 (lt71 (by omega)) (fun q => by omega)] at hv1_
        have hl : lv_has ls 5 [(4, .ref (ad1_ i_12)), (0, .ref (ad1_ 0)), (1, .int (c_)), (2, .int (w_)), (3, .int (x))] := by rw [hg1_ i_12 ((lt71 (by omega))), hg1_ 0 ((lt71 (by omega)))]; exact hl
        exact kk_k_14 r_ S1_ ad1_ H locs z1_ ls hX1_ (Fr.tr hF_5 hF1_ (fun j k hj h => by have hc_ := (hF_5).1; have hk_ := Fr.K hF_5 hj; omega)) (fun j hj => (hg1_ j (Nat.lt_of_lt_of_le hj (Nat.add_le_add_left (hF_5).1 71))).trans ((fun _ _ => rfl) j hj)) (by omega) ez1_ (hv1_.trans (bV_0 _ _ _).symm) he1_ hP hD hS hl
      · refine va_calli (va_runU (As := [.ref (ad i_12), .int (x), .ref (ad 61)]) (rest := []) ⟨hx, hb, hml, hown, hT⟩ (c_x8_buysE l G ad S_3 H.size (1) (i_12) (0) (x) ((by omega : 1 < 7)) (hp_i_12) (hw_2) (by first | assumption | omega) (hX_4)) (tO 3 hT m4_224 m4_227 m4_225 m5_0 m4_233 m1_3 m4_234 m5_7 rfl rfl (by decide +kernel) ⟨Nat.le_of_ble_eq_true rfl, Nat.le_of_ble_eq_true rfl⟩) ⟨PcE_blind, va_recv hK hP (ci := 10) (q0 := 2 + 1) rfl (ix_at (lt71 (by omega)) (cX_knd (by omega))), PcE_of hP hK hD hE hS (fun q h => hFc q h) _⟩ rfl rfl hl.1 rfl (lv_room (Nat.le_of_ble_eq_true rfl)) (fk_get fk_cX11_act_0 27 rfl) ⟨Nat.le_of_ble_eq_true rfl, Nat.le_of_ble_eq_true rfl⟩) hS (fun q _ h => hFc q h) hFc (fun r_ u_ t_ H locs ht_ hvm_ hw_ hB_ hz_ hk_ hS => ?_)
        obtain ⟨S1_, ad1_⟩ := u_
        dsimp only at hB_ hw_
        obtain ⟨hP, -, hD1_⟩ := hB_
        rw [ht_] at hP
        have hD : va_D A (wX G ad1_ S1_) := hD1_.weaken (fun k q _ h => hFc q.1 h)
        obtain ⟨hX1_, hF1_, hg1_, ⟨z1_, bz1_, ez1_⟩, hv1_, he1_⟩ := hw_
        try rw [show fF S_3 i_12 3 = fF S i_12 3 from Fr.F hF_5 (lt71 (by omega)) (fun q => by omega)] at hv1_
        try rw [show fF S_3 i_12 0 = fF S i_12 0 from Fr.F hF_5 (lt71 (by omega)) (fun q => by omega)] at hv1_
        have hl : lv_has ls 5 [(4, .ref (ad1_ i_12)), (0, .ref (ad1_ 0)), (1, .int (c_)), (2, .int (w_)), (3, .int (x))] := by rw [hg1_ i_12 ((lt71 (by omega))), hg1_ 0 ((lt71 (by omega)))]; exact hl
        exact kk_k_14 r_ S1_ ad1_ H locs z1_ ls hX1_ (Fr.tr hF_5 hF1_ (fun j k hj h => by have hc_ := (hF_5).1; have hk_ := Fr.K hF_5 hj; omega)) (fun j hj => (hg1_ j (Nat.lt_of_lt_of_le hj (Nat.add_le_add_left (hF_5).1 71))).trans ((fun _ _ => rfl) j hj)) (by omega) ez1_ (hv1_.trans (bV_1 _ _ _).symm) he1_ hP hD hS hl
      · refine va_calli (va_runU (As := [.ref (ad i_12), .int (x), .ref (ad 61)]) (rest := []) ⟨hx, hb, hml, hown, hT⟩ (c_x5_buysE l G ad S_3 H.size (2) (i_12) (0) (x) ((by omega : 2 < 7)) (hp_i_12) (hw_2) (by first | assumption | omega) (hX_4)) (tU 3 hT m4_224 m4_227 m4_238 m4_225 m1_2 m5_7 rfl rfl rfl (by decide +kernel) ⟨Nat.le_of_ble_eq_true rfl, Nat.le_of_ble_eq_true rfl⟩) ⟨PcE_blind, va_recv hK hP (ci := 6) (q0 := 2 + 2) rfl (ix_at (lt71 (by omega)) (cX_knd (by omega))), PcE_of hP hK hD hE hS (fun q h => hFc q h) _⟩ rfl rfl hl.1 rfl (lv_room (Nat.le_of_ble_eq_true rfl)) (fk_get fk_cX11_act_0 27 rfl) ⟨Nat.le_of_ble_eq_true rfl, Nat.le_of_ble_eq_true rfl⟩) hS (fun q _ h => hFc q h) hFc (fun r_ u_ t_ H locs ht_ hvm_ hw_ hB_ hz_ hk_ hS => ?_)
        obtain ⟨S1_, ad1_⟩ := u_
        dsimp only at hB_ hw_
        obtain ⟨hP, -, hD1_⟩ := hB_
        rw [ht_] at hP
        have hD : va_D A (wX G ad1_ S1_) := hD1_.weaken (fun k q _ h => hFc q.1 h)
        obtain ⟨hX1_, hF1_, hg1_, ⟨z1_, bz1_, ez1_⟩, hv1_, he1_⟩ := hw_
        try rw [show fF S_3 i_12 3 = fF S i_12 3 from Fr.F hF_5 (lt71 (by omega)) (fun q => by omega)] at hv1_
        try rw [show fF S_3 i_12 0 = fF S i_12 0 from Fr.F hF_5 (lt71 (by omega)) (fun q => by omega)] at hv1_
        have hl : lv_has ls 5 [(4, .ref (ad1_ i_12)), (0, .ref (ad1_ 0)), (1, .int (c_)), (2, .int (w_)), (3, .int (x))] := by rw [hg1_ i_12 ((lt71 (by omega))), hg1_ 0 ((lt71 (by omega)))]; exact hl
        exact kk_k_14 r_ S1_ ad1_ H locs z1_ ls hX1_ (Fr.tr hF_5 hF1_ (fun j k hj h => by have hc_ := (hF_5).1; have hk_ := Fr.K hF_5 hj; omega)) (fun j hj => (hg1_ j (Nat.lt_of_lt_of_le hj (Nat.add_le_add_left (hF_5).1 71))).trans ((fun _ _ => rfl) j hj)) (by omega) ez1_ (hv1_.trans (bV_2 _ _ _).symm) he1_ hP hD hS hl
      · refine va_calli (va_runU (As := [.ref (ad i_12), .int (x), .ref (ad 61)]) (rest := []) ⟨hx, hb, hml, hown, hT⟩ (c_x5_buysE l G ad S_3 H.size (3) (i_12) (0) (x) ((by omega : 3 < 7)) (hp_i_12) (hw_2) (by first | assumption | omega) (hX_4)) (tU 3 hT m4_224 m4_227 m4_228 m4_225 m1_2 m5_7 rfl rfl rfl (by decide +kernel) ⟨Nat.le_of_ble_eq_true rfl, Nat.le_of_ble_eq_true rfl⟩) ⟨PcE_blind, va_recv hK hP (ci := 2) (q0 := 2 + 3) rfl (ix_at (lt71 (by omega)) (cX_knd (by omega))), PcE_of hP hK hD hE hS (fun q h => hFc q h) _⟩ rfl rfl hl.1 rfl (lv_room (Nat.le_of_ble_eq_true rfl)) (fk_get fk_cX11_act_0 27 rfl) ⟨Nat.le_of_ble_eq_true rfl, Nat.le_of_ble_eq_true rfl⟩) hS (fun q _ h => hFc q h) hFc (fun r_ u_ t_ H locs ht_ hvm_ hw_ hB_ hz_ hk_ hS => ?_)
        obtain ⟨S1_, ad1_⟩ := u_
        dsimp only at hB_ hw_
        obtain ⟨hP, -, hD1_⟩ := hB_
        rw [ht_] at hP
        have hD : va_D A (wX G ad1_ S1_) := hD1_.weaken (fun k q _ h => hFc q.1 h)
        obtain ⟨hX1_, hF1_, hg1_, ⟨z1_, bz1_, ez1_⟩, hv1_, he1_⟩ := hw_
        try rw [show fF S_3 i_12 3 = fF S i_12 3 from Fr.F hF_5 (lt71 (by omega)) (fun q => by omega)] at hv1_
        try rw [show fF S_3 i_12 0 = fF S i_12 0 from Fr.F hF_5 (lt71 (by omega)) (fun q => by omega)] at hv1_
        have hl : lv_has ls 5 [(4, .ref (ad1_ i_12)), (0, .ref (ad1_ 0)), (1, .int (c_)), (2, .int (w_)), (3, .int (x))] := by rw [hg1_ i_12 ((lt71 (by omega))), hg1_ 0 ((lt71 (by omega)))]; exact hl
        exact kk_k_14 r_ S1_ ad1_ H locs z1_ ls hX1_ (Fr.tr hF_5 hF1_ (fun j k hj h => by have hc_ := (hF_5).1; have hk_ := Fr.K hF_5 hj; omega)) (fun j hj => (hg1_ j (Nat.lt_of_lt_of_le hj (Nat.add_le_add_left (hF_5).1 71))).trans ((fun _ _ => rfl) j hj)) (by omega) ez1_ (hv1_.trans (bV_3 _ _ _).symm) he1_ hP hD hS hl
      · refine va_calli (va_runU (As := [.ref (ad i_12), .int (x), .ref (ad 61)]) (rest := []) ⟨hx, hb, hml, hown, hT⟩ (c_x2_buysE l G ad S_3 H.size (4) (i_12) (0) (x) ((by omega : 4 < 7)) (hp_i_12) (hw_2) (by first | assumption | omega) (hX_4)) (tO 3 hT m4_224 m4_227 m4_225 m4_229 m4_230 m1_6 m4_231 m5_7 rfl rfl (by decide +kernel) ⟨Nat.le_of_ble_eq_true rfl, Nat.le_of_ble_eq_true rfl⟩) ⟨PcE_blind, va_recv hK hP (ci := 4) (q0 := 2 + 4) rfl (ix_at (lt71 (by omega)) (cX_knd (by omega))), PcE_of hP hK hD hE hS (fun q h => hFc q h) _⟩ rfl rfl hl.1 rfl (lv_room (Nat.le_of_ble_eq_true rfl)) (fk_get fk_cX11_act_0 27 rfl) ⟨Nat.le_of_ble_eq_true rfl, Nat.le_of_ble_eq_true rfl⟩) hS (fun q _ h => hFc q h) hFc (fun r_ u_ t_ H locs ht_ hvm_ hw_ hB_ hz_ hk_ hS => ?_)
        obtain ⟨S1_, ad1_⟩ := u_
        dsimp only at hB_ hw_
        obtain ⟨hP, -, hD1_⟩ := hB_
        rw [ht_] at hP
        have hD : va_D A (wX G ad1_ S1_) := hD1_.weaken (fun k q _ h => hFc q.1 h)
        obtain ⟨hX1_, hF1_, hg1_, ⟨z1_, bz1_, ez1_⟩, hv1_, he1_⟩ := hw_
        try rw [show fF S_3 i_12 3 = fF S i_12 3 from Fr.F hF_5 (lt71 (by omega)) (fun q => by omega)] at hv1_
        try rw [show fF S_3 i_12 0 = fF S i_12 0 from Fr.F hF_5 (lt71 (by omega)) (fun q => by omega)] at hv1_
        have hl : lv_has ls 5 [(4, .ref (ad1_ i_12)), (0, .ref (ad1_ 0)), (1, .int (c_)), (2, .int (w_)), (3, .int (x))] := by rw [hg1_ i_12 ((lt71 (by omega))), hg1_ 0 ((lt71 (by omega)))]; exact hl
        exact kk_k_14 r_ S1_ ad1_ H locs z1_ ls hX1_ (Fr.tr hF_5 hF1_ (fun j k hj h => by have hc_ := (hF_5).1; have hk_ := Fr.K hF_5 hj; omega)) (fun j hj => (hg1_ j (Nat.lt_of_lt_of_le hj (Nat.add_le_add_left (hF_5).1 71))).trans ((fun _ _ => rfl) j hj)) (by omega) ez1_ (hv1_.trans (bV_4 _ _ _).symm) he1_ hP hD hS hl
      · refine va_calli (va_runU (As := [.ref (ad i_12), .int (x), .ref (ad 61)]) (rest := []) ⟨hx, hb, hml, hown, hT⟩ (c_x5_buysE l G ad S_3 H.size (5) (i_12) (0) (x) ((by omega : 5 < 7)) (hp_i_12) (hw_2) (by first | assumption | omega) (hX_4)) (tU 3 hT m4_224 m4_227 m4_239 m4_225 m1_2 m5_7 rfl rfl rfl (by decide +kernel) ⟨Nat.le_of_ble_eq_true rfl, Nat.le_of_ble_eq_true rfl⟩) ⟨PcE_blind, va_recv hK hP (ci := 8) (q0 := 2 + 5) rfl (ix_at (lt71 (by omega)) (cX_knd (by omega))), PcE_of hP hK hD hE hS (fun q h => hFc q h) _⟩ rfl rfl hl.1 rfl (lv_room (Nat.le_of_ble_eq_true rfl)) (fk_get fk_cX11_act_0 27 rfl) ⟨Nat.le_of_ble_eq_true rfl, Nat.le_of_ble_eq_true rfl⟩) hS (fun q _ h => hFc q h) hFc (fun r_ u_ t_ H locs ht_ hvm_ hw_ hB_ hz_ hk_ hS => ?_)
        obtain ⟨S1_, ad1_⟩ := u_
        dsimp only at hB_ hw_
        obtain ⟨hP, -, hD1_⟩ := hB_
        rw [ht_] at hP
        have hD : va_D A (wX G ad1_ S1_) := hD1_.weaken (fun k q _ h => hFc q.1 h)
        obtain ⟨hX1_, hF1_, hg1_, ⟨z1_, bz1_, ez1_⟩, hv1_, he1_⟩ := hw_
        try rw [show fF S_3 i_12 3 = fF S i_12 3 from Fr.F hF_5 (lt71 (by omega)) (fun q => by omega)] at hv1_
        try rw [show fF S_3 i_12 0 = fF S i_12 0 from Fr.F hF_5 (lt71 (by omega)) (fun q => by omega)] at hv1_
        have hl : lv_has ls 5 [(4, .ref (ad1_ i_12)), (0, .ref (ad1_ 0)), (1, .int (c_)), (2, .int (w_)), (3, .int (x))] := by rw [hg1_ i_12 ((lt71 (by omega))), hg1_ 0 ((lt71 (by omega)))]; exact hl
        exact kk_k_14 r_ S1_ ad1_ H locs z1_ ls hX1_ (Fr.tr hF_5 hF1_ (fun j k hj h => by have hc_ := (hF_5).1; have hk_ := Fr.K hF_5 hj; omega)) (fun j hj => (hg1_ j (Nat.lt_of_lt_of_le hj (Nat.add_le_add_left (hF_5).1 71))).trans ((fun _ _ => rfl) j hj)) (by omega) ez1_ (hv1_.trans (bV_5 _ _ _).symm) he1_ hP hD hS hl
      · refine va_calli (va_runU (As := [.ref (ad i_12), .int (x), .ref (ad 61)]) (rest := []) ⟨hx, hb, hml, hown, hT⟩ (c_x10_buysE l G ad S_3 H.size (6) (i_12) (0) (x) ((by omega : 6 < 7)) (hp_i_12) (hw_2) (by first | assumption | omega) (hX_4)) (tO 3 hT m4_224 m4_227 m4_225 m5_1 m5_2 m1_8 m5_3 m5_7 rfl rfl (by decide +kernel) ⟨Nat.le_of_ble_eq_true rfl, Nat.le_of_ble_eq_true rfl⟩) ⟨PcE_blind, va_recv hK hP (ci := 12) (q0 := 2 + 6) rfl (ix_at (lt71 (by omega)) (cX_knd (by omega))), PcE_of hP hK hD hE hS (fun q h => hFc q h) _⟩ rfl rfl hl.1 rfl (lv_room (Nat.le_of_ble_eq_true rfl)) (fk_get fk_cX11_act_0 27 rfl) ⟨Nat.le_of_ble_eq_true rfl, Nat.le_of_ble_eq_true rfl⟩) hS (fun q _ h => hFc q h) hFc (fun r_ u_ t_ H locs ht_ hvm_ hw_ hB_ hz_ hk_ hS => ?_)
        obtain ⟨S1_, ad1_⟩ := u_
        dsimp only at hB_ hw_
        obtain ⟨hP, -, hD1_⟩ := hB_
        rw [ht_] at hP
        have hD : va_D A (wX G ad1_ S1_) := hD1_.weaken (fun k q _ h => hFc q.1 h)
        obtain ⟨hX1_, hF1_, hg1_, ⟨z1_, bz1_, ez1_⟩, hv1_, he1_⟩ := hw_
        try rw [show fF S_3 i_12 3 = fF S i_12 3 from Fr.F hF_5 (lt71 (by omega)) (fun q => by omega)] at hv1_
        try rw [show fF S_3 i_12 0 = fF S i_12 0 from Fr.F hF_5 (lt71 (by omega)) (fun q => by omega)] at hv1_
        have hl : lv_has ls 5 [(4, .ref (ad1_ i_12)), (0, .ref (ad1_ 0)), (1, .int (c_)), (2, .int (w_)), (3, .int (x))] := by rw [hg1_ i_12 ((lt71 (by omega))), hg1_ 0 ((lt71 (by omega)))]; exact hl
        exact kk_k_14 r_ S1_ ad1_ H locs z1_ ls hX1_ (Fr.tr hF_5 hF1_ (fun j k hj h => by have hc_ := (hF_5).1; have hk_ := Fr.K hF_5 hj; omega)) (fun j hj => (hg1_ j (Nat.lt_of_lt_of_le hj (Nat.add_le_add_left (hF_5).1 71))).trans ((fun _ _ => rfl) j hj)) (by omega) ez1_ (hv1_.trans (bV_6 _ _ _).symm) he1_ hP hD hS hl
    by_cases c_16 : w_ = (2 : Int32)
    · refine lv_tableIn (off := 59) (tgt := 84) hx hb (dk_get dk_cX11_act_0 0 rfl) (by rw [c_16]; decide) (by rw [c_16]; decide) (by rw [c_16]; rfl) (by decide) ?_
      refine lv_aload hx hb (fk_get fk_cX11_act_0 29 rfl) (lv_at hl 0 rfl) ?_
      obtain ⟨n_17, en_17, bn_17⟩ := XI.kin hX_4 hp_i_12
      refine va_get (D := G.1) (ci := 5) (v := va_rf ((fR S_3 i_12 2).map ad)) (C := RX3) (T := TX3) (N := 10) hx hb hT inX3 hown hK hP i_12 (ix_at (lt71 (by omega)) (cX_cust hp_i_12)) rfl 2 (by decide) (hT _ m1_144) (fun _ h9 => h9) rfl (fk_get fk_cX11_act_0 30 rfl) ?_
      rw [show va_rf ((fR S_3 i_12 2).map ad) = .ref (ad (2 + n_17)) from by rw [en_17]; rfl]
      refine lv_aload hx hb (fk_get fk_cX11_act_0 31 rfl) (lv_at hl 0 rfl) ?_
      refine lv_iload_n hx hb (fk_get fk_cX11_act_1 0 rfl) rfl (lv_at hl 4 rfl) ?_
      refine lv_aload_n hx hb (fk_get fk_cX11_act_1 1 rfl) rfl (lv_at hl 1 rfl) ?_
      refine va_get (D := G.1) (ci := 13) (v := .ref (ad 61)) (C := RX11) (T := TX11) (N := 11) hx hb hT inX11 hown hK hP 0 (ix_at (lt71 (by omega)) (cX_0 G ad S_3)) rfl 5 (by decide) (hT _ m2_74) (fun _ h9 => h9) rfl (fk_get fk_cX11_act_1 2 rfl) ?_
      have kk_k_18 : ∀ (rk_18 : Int32) (Sk_18 : FS) (adk_18 : Nat → Nat) (Hk_18 : Heap) (locsk_18 : List Loc) (zk_18 : Nat) (ls : Array Slot), XI Sk_18 → Fr (fun j k => j = 61 ∨ (71 ≤ j ∧ (fK S j = 2 ∨ 71 + fC S ≤ j))) S Sk_18 → (∀ j, j < 71 + fC S → adk_18 j = ad j) → zk_18 ≤ 0 + 12 → fF Sk_18 61 2 = nI zk_18 → rk_18 = (tlV (nI n_17) (fF S i_12 3) (fF S i_12 0) x) → EB 0 (tL n_17) S_3 Sk_18 → va_P G.1 vwCl (wX G adk_18 Sk_18) Hk_18 → va_D A (wX G adk_18 Sk_18) → va_S A s.heap Hk_18 locsk_18 → lv_has ls 5 [(4, .ref (adk_18 i_12)), (0, .ref (adk_18 0)), (1, .int (c_)), (2, .int (w_)), (3, .int (x))] → W p l e ({ frames := 20, cells := 12, slots := 768, locals := 614 } : Room) s m args below meth c₀ Hk_18 locsk_18 (0 + 12) (0 + 768) Q (F0 m 99 ls [.int (rk_18)]) := by
        intro rk_18 Sk_18 adk_18 Hk_18 locsk_18 zk_18 ls hXk_18 hFk_18 hgk_18 bzk_18 ezk_18 hvk_18 hek_18 hP hD hS hl
        subst hvk_18
        have eb_19 : EB 0 ([] ++ tL n_17) S_3 Sk_18 := eb_app (eb_0 hw_2) hw_2 (by omega) (by omega) (by simp only [List.length_append, List.length_cons, List.length_nil]; have := aL_len n_17; have := bL_len n_17; omega) hek_18
        subst hQ
        have hpost : XI Sk_18 ∧ Fr (fun j k => j = 61 ∨ (71 ≤ j ∧ (fK S j = 2 ∨ 71 + fC S ≤ j))) S Sk_18 ∧ (∀ j, j < 71 + fC S → adk_18 j = ad j) ∧ (∃ z', z' ≤ 12 ∧ fF Sk_18 61 2 = nI z') ∧ ActP n c_ w_ x ((tlV (nI n_17) (fF S i_12 3) (fF S i_12 0) x) : Int32) S Sk_18 := by
          exact ⟨hXk_18, hFk_18, hgk_18, ⟨⟨_, by omega, ezk_18⟩, by first | exact Or.inr ⟨j_12, n_17, hj_12, ej_12, bn_17, by rw [hg_i_12]; exact ((Fr.R hF_5 (lt71 (by omega)) (fun q => by omega)).symm.trans en_17), Or.inl ⟨by assumption, by rw [hg_i_12], ec_of eb_19⟩⟩ | exact Or.inr ⟨j_12, n_17, hj_12, ej_12, bn_17, by rw [hg_i_12]; exact ((Fr.R hF_5 (lt71 (by omega)) (fun q => by omega)).symm.trans en_17), Or.inr (Or.inl ⟨by assumption, by rw [hg_i_12], ec_of eb_19⟩)⟩ | exact Or.inr ⟨j_12, n_17, hj_12, ej_12, bn_17, by rw [hg_i_12]; exact ((Fr.R hF_5 (lt71 (by omega)) (fun q => by omega)).symm.trans en_17), Or.inr (Or.inr ⟨by assumption, by rw [hg_i_12], ec_of eb_19⟩)⟩⟩⟩
        refine W.widen (k := 12) (n := 768) (by omega) (by omega) ?_
        exact W.iret (v := (tlV (nI n_17) (fF S i_12 3) (fF S i_12 0) x)) hx hb hr (fun t_ ht_ hW_ => ⟨⟨(tlV (nI n_17) (fF S i_12 3) (fF S i_12 0) x), (Sk_18, adk_18), rfl, hpost, by rw [ht_]; exact hP, va_K.moved hW_.alike hK, hD⟩, hS.F ht_⟩) hS.2.2 (fk_get fk_cX11_act_1 4 rfl)
      have hFc := va_self hD hS hA
      rcases kq7 bn_17 with rfl | rfl | rfl | rfl | rfl | rfl | rfl
      · refine va_calli (va_runU (As := [.ref (ad i_12), .int (x), .ref (ad 61)]) (rest := []) ⟨hx, hb, hml, hown, hT⟩ (c_x5_tellsE l G ad S_3 H.size (0) (i_12) (0) (x) ((by omega : 0 < 7)) (hp_i_12) (hw_2) (by first | assumption | omega) (hX_4)) (tU 3 hT m5_9 m5_12 m5_11 m5_10 m1_2 m5_34 rfl rfl rfl (by decide +kernel) ⟨Nat.le_of_ble_eq_true rfl, Nat.le_of_ble_eq_true rfl⟩) ⟨PcE_blind, va_recv hK hP (ci := 7) (q0 := 2 + 0) rfl (ix_at (lt71 (by omega)) (cX_knd (by omega))), PcE_of hP hK hD hE hS (fun q h => hFc q h) _⟩ rfl rfl hl.1 rfl (lv_room (Nat.le_of_ble_eq_true rfl)) (fk_get fk_cX11_act_1 3 rfl) ⟨Nat.le_of_ble_eq_true rfl, Nat.le_of_ble_eq_true rfl⟩) hS (fun q _ h => hFc q h) hFc (fun r_ u_ t_ H locs ht_ hvm_ hw_ hB_ hz_ hk_ hS => ?_)
        obtain ⟨S1_, ad1_⟩ := u_
        dsimp only at hB_ hw_
        obtain ⟨hP, -, hD1_⟩ := hB_
        rw [ht_] at hP
        have hD : va_D A (wX G ad1_ S1_) := hD1_.weaken (fun k q _ h => hFc q.1 h)
        obtain ⟨hX1_, hF1_, hg1_, ⟨z1_, bz1_, ez1_⟩, hv1_, he1_⟩ := hw_
        try rw [show fF S_3 i_12 3 = fF S i_12 3 from Fr.F hF_5 (lt71 (by omega)) (fun q => by omega)] at hv1_
        try rw [show fF S_3 i_12 0 = fF S i_12 0 from Fr.F hF_5 (lt71 (by omega)) (fun q => by omega)] at hv1_
        have hl : lv_has ls 5 [(4, .ref (ad1_ i_12)), (0, .ref (ad1_ 0)), (1, .int (c_)), (2, .int (w_)), (3, .int (x))] := by rw [hg1_ i_12 ((lt71 (by omega))), hg1_ 0 ((lt71 (by omega)))]; exact hl
        exact kk_k_18 r_ S1_ ad1_ H locs z1_ ls hX1_ (Fr.tr hF_5 hF1_ (fun j k hj h => by have hc_ := (hF_5).1; have hk_ := Fr.K hF_5 hj; omega)) (fun j hj => (hg1_ j (Nat.lt_of_lt_of_le hj (Nat.add_le_add_left (hF_5).1 71))).trans ((fun _ _ => rfl) j hj)) (by omega) ez1_ (hv1_.trans (tlV_0 _ _ _).symm) he1_ hP hD hS hl
      · refine va_calli (va_runU (As := [.ref (ad i_12), .int (x), .ref (ad 61)]) (rest := []) ⟨hx, hb, hml, hown, hT⟩ (c_x5_tellsE l G ad S_3 H.size (1) (i_12) (0) (x) ((by omega : 1 < 7)) (hp_i_12) (hw_2) (by first | assumption | omega) (hX_4)) (tU 3 hT m5_9 m5_12 m5_32 m5_10 m1_2 m5_34 rfl rfl rfl (by decide +kernel) ⟨Nat.le_of_ble_eq_true rfl, Nat.le_of_ble_eq_true rfl⟩) ⟨PcE_blind, va_recv hK hP (ci := 10) (q0 := 2 + 1) rfl (ix_at (lt71 (by omega)) (cX_knd (by omega))), PcE_of hP hK hD hE hS (fun q h => hFc q h) _⟩ rfl rfl hl.1 rfl (lv_room (Nat.le_of_ble_eq_true rfl)) (fk_get fk_cX11_act_1 3 rfl) ⟨Nat.le_of_ble_eq_true rfl, Nat.le_of_ble_eq_true rfl⟩) hS (fun q _ h => hFc q h) hFc (fun r_ u_ t_ H locs ht_ hvm_ hw_ hB_ hz_ hk_ hS => ?_)
        obtain ⟨S1_, ad1_⟩ := u_
        dsimp only at hB_ hw_
        obtain ⟨hP, -, hD1_⟩ := hB_
        rw [ht_] at hP
        have hD : va_D A (wX G ad1_ S1_) := hD1_.weaken (fun k q _ h => hFc q.1 h)
        obtain ⟨hX1_, hF1_, hg1_, ⟨z1_, bz1_, ez1_⟩, hv1_, he1_⟩ := hw_
        try rw [show fF S_3 i_12 3 = fF S i_12 3 from Fr.F hF_5 (lt71 (by omega)) (fun q => by omega)] at hv1_
        try rw [show fF S_3 i_12 0 = fF S i_12 0 from Fr.F hF_5 (lt71 (by omega)) (fun q => by omega)] at hv1_
        have hl : lv_has ls 5 [(4, .ref (ad1_ i_12)), (0, .ref (ad1_ 0)), (1, .int (c_)), (2, .int (w_)), (3, .int (x))] := by rw [hg1_ i_12 ((lt71 (by omega))), hg1_ 0 ((lt71 (by omega)))]; exact hl
        exact kk_k_18 r_ S1_ ad1_ H locs z1_ ls hX1_ (Fr.tr hF_5 hF1_ (fun j k hj h => by have hc_ := (hF_5).1; have hk_ := Fr.K hF_5 hj; omega)) (fun j hj => (hg1_ j (Nat.lt_of_lt_of_le hj (Nat.add_le_add_left (hF_5).1 71))).trans ((fun _ _ => rfl) j hj)) (by omega) ez1_ (hv1_.trans (tlV_1 _ _ _).symm) he1_ hP hD hS hl
      · refine va_calli (va_runU (As := [.ref (ad i_12), .int (x), .ref (ad 61)]) (rest := []) ⟨hx, hb, hml, hown, hT⟩ (c_x5_tellsE l G ad S_3 H.size (2) (i_12) (0) (x) ((by omega : 2 < 7)) (hp_i_12) (hw_2) (by first | assumption | omega) (hX_4)) (tU 3 hT m5_9 m5_12 m5_23 m5_10 m1_2 m5_34 rfl rfl rfl (by decide +kernel) ⟨Nat.le_of_ble_eq_true rfl, Nat.le_of_ble_eq_true rfl⟩) ⟨PcE_blind, va_recv hK hP (ci := 6) (q0 := 2 + 2) rfl (ix_at (lt71 (by omega)) (cX_knd (by omega))), PcE_of hP hK hD hE hS (fun q h => hFc q h) _⟩ rfl rfl hl.1 rfl (lv_room (Nat.le_of_ble_eq_true rfl)) (fk_get fk_cX11_act_1 3 rfl) ⟨Nat.le_of_ble_eq_true rfl, Nat.le_of_ble_eq_true rfl⟩) hS (fun q _ h => hFc q h) hFc (fun r_ u_ t_ H locs ht_ hvm_ hw_ hB_ hz_ hk_ hS => ?_)
        obtain ⟨S1_, ad1_⟩ := u_
        dsimp only at hB_ hw_
        obtain ⟨hP, -, hD1_⟩ := hB_
        rw [ht_] at hP
        have hD : va_D A (wX G ad1_ S1_) := hD1_.weaken (fun k q _ h => hFc q.1 h)
        obtain ⟨hX1_, hF1_, hg1_, ⟨z1_, bz1_, ez1_⟩, hv1_, he1_⟩ := hw_
        try rw [show fF S_3 i_12 3 = fF S i_12 3 from Fr.F hF_5 (lt71 (by omega)) (fun q => by omega)] at hv1_
        try rw [show fF S_3 i_12 0 = fF S i_12 0 from Fr.F hF_5 (lt71 (by omega)) (fun q => by omega)] at hv1_
        have hl : lv_has ls 5 [(4, .ref (ad1_ i_12)), (0, .ref (ad1_ 0)), (1, .int (c_)), (2, .int (w_)), (3, .int (x))] := by rw [hg1_ i_12 ((lt71 (by omega))), hg1_ 0 ((lt71 (by omega)))]; exact hl
        exact kk_k_18 r_ S1_ ad1_ H locs z1_ ls hX1_ (Fr.tr hF_5 hF1_ (fun j k hj h => by have hc_ := (hF_5).1; have hk_ := Fr.K hF_5 hj; omega)) (fun j hj => (hg1_ j (Nat.lt_of_lt_of_le hj (Nat.add_le_add_left (hF_5).1 71))).trans ((fun _ _ => rfl) j hj)) (by omega) ez1_ (hv1_.trans (tlV_2 _ _ _).symm) he1_ hP hD hS hl
      · refine va_calli (va_runU (As := [.ref (ad i_12), .int (x), .ref (ad 61)]) (rest := []) ⟨hx, hb, hml, hown, hT⟩ (c_x0_tellsE l G ad S_3 H.size (3) (i_12) (0) (x) ((by omega : 3 < 7)) (by first | assumption | omega) (hp_i_12) (hw_2) (by first | assumption | omega) (hX_4)) (tO 3 hT m5_9 m5_12 m5_10 m5_13 m5_14 m1_5 m5_15 m5_34 rfl rfl (by decide +kernel) ⟨Nat.le_of_ble_eq_true rfl, Nat.le_of_ble_eq_true rfl⟩) ⟨PcE_blind, va_recv hK hP (ci := 2) (q0 := 2 + 3) rfl (ix_at (lt71 (by omega)) (cX_knd (by omega))), PcE_of hP hK hD hE hS (fun q h => hFc q h) _⟩ rfl rfl hl.1 rfl (lv_room (Nat.le_of_ble_eq_true rfl)) (fk_get fk_cX11_act_1 3 rfl) ⟨Nat.le_of_ble_eq_true rfl, Nat.le_of_ble_eq_true rfl⟩) hS (fun q _ h => hFc q h) hFc (fun r_ u_ t_ H locs ht_ hvm_ hw_ hB_ hz_ hk_ hS => ?_)
        obtain ⟨S1_, ad1_⟩ := u_
        dsimp only at hB_ hw_
        obtain ⟨hP, -, hD1_⟩ := hB_
        rw [ht_] at hP
        have hD : va_D A (wX G ad1_ S1_) := hD1_.weaken (fun k q _ h => hFc q.1 h)
        obtain ⟨hX1_, hF1_, hg1_, ⟨z1_, bz1_, ez1_⟩, hv1_, he1_⟩ := hw_
        try rw [show fF S_3 i_12 3 = fF S i_12 3 from Fr.F hF_5 (lt71 (by omega)) (fun q => by omega)] at hv1_
        try rw [show fF S_3 i_12 0 = fF S i_12 0 from Fr.F hF_5 (lt71 (by omega)) (fun q => by omega)] at hv1_
        have hl : lv_has ls 5 [(4, .ref (ad1_ i_12)), (0, .ref (ad1_ 0)), (1, .int (c_)), (2, .int (w_)), (3, .int (x))] := by rw [hg1_ i_12 ((lt71 (by omega))), hg1_ 0 ((lt71 (by omega)))]; exact hl
        exact kk_k_18 r_ S1_ ad1_ H locs z1_ ls hX1_ (Fr.tr hF_5 hF1_ (fun j k hj h => by have hc_ := (hF_5).1; have hk_ := Fr.K hF_5 hj; omega)) (fun j hj => (hg1_ j (Nat.lt_of_lt_of_le hj (Nat.add_le_add_left (hF_5).1 71))).trans ((fun _ _ => rfl) j hj)) (by omega) ez1_ (hv1_.trans (tlV_3 _ _ _).symm) he1_ hP hD hS hl
      · refine va_calli (va_runU (As := [.ref (ad i_12), .int (x), .ref (ad 61)]) (rest := []) ⟨hx, hb, hml, hown, hT⟩ (c_x5_tellsE l G ad S_3 H.size (4) (i_12) (0) (x) ((by omega : 4 < 7)) (hp_i_12) (hw_2) (by first | assumption | omega) (hX_4)) (tU 3 hT m5_9 m5_12 m5_22 m5_10 m1_2 m5_34 rfl rfl rfl (by decide +kernel) ⟨Nat.le_of_ble_eq_true rfl, Nat.le_of_ble_eq_true rfl⟩) ⟨PcE_blind, va_recv hK hP (ci := 4) (q0 := 2 + 4) rfl (ix_at (lt71 (by omega)) (cX_knd (by omega))), PcE_of hP hK hD hE hS (fun q h => hFc q h) _⟩ rfl rfl hl.1 rfl (lv_room (Nat.le_of_ble_eq_true rfl)) (fk_get fk_cX11_act_1 3 rfl) ⟨Nat.le_of_ble_eq_true rfl, Nat.le_of_ble_eq_true rfl⟩) hS (fun q _ h => hFc q h) hFc (fun r_ u_ t_ H locs ht_ hvm_ hw_ hB_ hz_ hk_ hS => ?_)
        obtain ⟨S1_, ad1_⟩ := u_
        dsimp only at hB_ hw_
        obtain ⟨hP, -, hD1_⟩ := hB_
        rw [ht_] at hP
        have hD : va_D A (wX G ad1_ S1_) := hD1_.weaken (fun k q _ h => hFc q.1 h)
        obtain ⟨hX1_, hF1_, hg1_, ⟨z1_, bz1_, ez1_⟩, hv1_, he1_⟩ := hw_
        try rw [show fF S_3 i_12 3 = fF S i_12 3 from Fr.F hF_5 (lt71 (by omega)) (fun q => by omega)] at hv1_
        try rw [show fF S_3 i_12 0 = fF S i_12 0 from Fr.F hF_5 (lt71 (by omega)) (fun q => by omega)] at hv1_
        have hl : lv_has ls 5 [(4, .ref (ad1_ i_12)), (0, .ref (ad1_ 0)), (1, .int (c_)), (2, .int (w_)), (3, .int (x))] := by rw [hg1_ i_12 ((lt71 (by omega))), hg1_ 0 ((lt71 (by omega)))]; exact hl
        exact kk_k_18 r_ S1_ ad1_ H locs z1_ ls hX1_ (Fr.tr hF_5 hF1_ (fun j k hj h => by have hc_ := (hF_5).1; have hk_ := Fr.K hF_5 hj; omega)) (fun j hj => (hg1_ j (Nat.lt_of_lt_of_le hj (Nat.add_le_add_left (hF_5).1 71))).trans ((fun _ _ => rfl) j hj)) (by omega) ez1_ (hv1_.trans (tlV_4 _ _ _).symm) he1_ hP hD hS hl
      · refine va_calli (va_runU (As := [.ref (ad i_12), .int (x), .ref (ad 61)]) (rest := []) ⟨hx, hb, hml, hown, hT⟩ (c_x6_tellsE l G ad S_3 H.size (5) (i_12) (0) (x) ((by omega : 5 < 7)) (hp_i_12) (hw_2) (by first | assumption | omega) (hX_4)) (tO 3 hT m5_9 m5_12 m5_10 m5_24 m5_25 m1_7 m5_26 m5_34 rfl rfl (by decide +kernel) ⟨Nat.le_of_ble_eq_true rfl, Nat.le_of_ble_eq_true rfl⟩) ⟨PcE_blind, va_recv hK hP (ci := 8) (q0 := 2 + 5) rfl (ix_at (lt71 (by omega)) (cX_knd (by omega))), PcE_of hP hK hD hE hS (fun q h => hFc q h) _⟩ rfl rfl hl.1 rfl (lv_room (Nat.le_of_ble_eq_true rfl)) (fk_get fk_cX11_act_1 3 rfl) ⟨Nat.le_of_ble_eq_true rfl, Nat.le_of_ble_eq_true rfl⟩) hS (fun q _ h => hFc q h) hFc (fun r_ u_ t_ H locs ht_ hvm_ hw_ hB_ hz_ hk_ hS => ?_)
        obtain ⟨S1_, ad1_⟩ := u_
        dsimp only at hB_ hw_
        obtain ⟨hP, -, hD1_⟩ := hB_
        rw [ht_] at hP
        have hD : va_D A (wX G ad1_ S1_) := hD1_.weaken (fun k q _ h => hFc q.1 h)
        obtain ⟨hX1_, hF1_, hg1_, ⟨z1_, bz1_, ez1_⟩, hv1_, he1_⟩ := hw_
        try rw [show fF S_3 i_12 3 = fF S i_12 3 from Fr.F hF_5 (lt71 (by omega)) (fun q => by omega)] at hv1_
        try rw [show fF S_3 i_12 0 = fF S i_12 0 from Fr.F hF_5 (lt71 (by omega)) (fun q => by omega)] at hv1_
        have hl : lv_has ls 5 [(4, .ref (ad1_ i_12)), (0, .ref (ad1_ 0)), (1, .int (c_)), (2, .int (w_)), (3, .int (x))] := by rw [hg1_ i_12 ((lt71 (by omega))), hg1_ 0 ((lt71 (by omega)))]; exact hl
        exact kk_k_18 r_ S1_ ad1_ H locs z1_ ls hX1_ (Fr.tr hF_5 hF1_ (fun j k hj h => by have hc_ := (hF_5).1; have hk_ := Fr.K hF_5 hj; omega)) (fun j hj => (hg1_ j (Nat.lt_of_lt_of_le hj (Nat.add_le_add_left (hF_5).1 71))).trans ((fun _ _ => rfl) j hj)) (by omega) ez1_ (hv1_.trans (tlV_5 _ _ _).symm) he1_ hP hD hS hl
      · refine va_calli (va_runU (As := [.ref (ad i_12), .int (x), .ref (ad 61)]) (rest := []) ⟨hx, hb, hml, hown, hT⟩ (c_x0_tellsE l G ad S_3 H.size (6) (i_12) (0) (x) ((by omega : 6 < 7)) (by first | assumption | omega) (hp_i_12) (hw_2) (by first | assumption | omega) (hX_4)) (tO 3 hT m5_9 m5_12 m5_10 m5_33 m5_14 m1_5 m5_15 m5_34 rfl rfl (by decide +kernel) ⟨Nat.le_of_ble_eq_true rfl, Nat.le_of_ble_eq_true rfl⟩) ⟨PcE_blind, va_recv hK hP (ci := 12) (q0 := 2 + 6) rfl (ix_at (lt71 (by omega)) (cX_knd (by omega))), PcE_of hP hK hD hE hS (fun q h => hFc q h) _⟩ rfl rfl hl.1 rfl (lv_room (Nat.le_of_ble_eq_true rfl)) (fk_get fk_cX11_act_1 3 rfl) ⟨Nat.le_of_ble_eq_true rfl, Nat.le_of_ble_eq_true rfl⟩) hS (fun q _ h => hFc q h) hFc (fun r_ u_ t_ H locs ht_ hvm_ hw_ hB_ hz_ hk_ hS => ?_)
        obtain ⟨S1_, ad1_⟩ := u_
        dsimp only at hB_ hw_
        obtain ⟨hP, -, hD1_⟩ := hB_
        rw [ht_] at hP
        have hD : va_D A (wX G ad1_ S1_) := hD1_.weaken (fun k q _ h => hFc q.1 h)
        obtain ⟨hX1_, hF1_, hg1_, ⟨z1_, bz1_, ez1_⟩, hv1_, he1_⟩ := hw_
        try rw [show fF S_3 i_12 3 = fF S i_12 3 from Fr.F hF_5 (lt71 (by omega)) (fun q => by omega)] at hv1_
        try rw [show fF S_3 i_12 0 = fF S i_12 0 from Fr.F hF_5 (lt71 (by omega)) (fun q => by omega)] at hv1_
        have hl : lv_has ls 5 [(4, .ref (ad1_ i_12)), (0, .ref (ad1_ 0)), (1, .int (c_)), (2, .int (w_)), (3, .int (x))] := by rw [hg1_ i_12 ((lt71 (by omega))), hg1_ 0 ((lt71 (by omega)))]; exact hl
        exact kk_k_18 r_ S1_ ad1_ H locs z1_ ls hX1_ (Fr.tr hF_5 hF1_ (fun j k hj h => by have hc_ := (hF_5).1; have hk_ := Fr.K hF_5 hj; omega)) (fun j hj => (hg1_ j (Nat.lt_of_lt_of_le hj (Nat.add_le_add_left (hF_5).1 71))).trans ((fun _ _ => rfl) j hj)) (by omega) ez1_ (hv1_.trans (tlV_6 _ _ _).symm) he1_ hP hD hS hl
    have o_20 : (w_).toInt < 0 ∨ 2 < (w_).toInt := by
      have qc_8 : ¬ (w_).toInt = 0 := lv_neT c_8 (by decide)
      have qc_12 : ¬ (w_).toInt = 1 := lv_neT c_12 (by decide)
      have qc_16 : ¬ (w_).toInt = 2 := lv_neT c_16 (by decide)
      omega
    refine lv_tableOut (tgt := 100) hx hb (dk_get dk_cX11_act_0 0 rfl) o_20 (by decide) ?_
    refine lv_iconst (v := 0) hx hb (fk_get fk_cX11_act_1 5 rfl) (by decide) ?_
    subst hQ
    have hpost : XI S_3 ∧ Fr (fun j k => j = 61 ∨ (71 ≤ j ∧ (fK S j = 2 ∨ 71 + fC S ≤ j))) S S_3 ∧ (∀ j, j < 71 + fC S → ad j = ad j) ∧ (∃ z', z' ≤ 12 ∧ fF S_3 61 2 = nI z') ∧ ActP n c_ w_ x (0 : Int32) S S_3 := by
      exact ⟨hX_4, hF_5, (fun _ _ => rfl), ⟨⟨_, by omega, hw_2⟩, by first | exact Or.inl ⟨rfl, hw_2, Or.inl (by assumption)⟩ | exact Or.inl ⟨rfl, hw_2, Or.inr ⟨by assumption, by assumption, by assumption⟩⟩⟩⟩
    refine W.widen (k := 12) (n := 768) (by omega) (by omega) ?_
    exact W.iret (v := 0) hx hb hr (fun t_ ht_ hW_ => ⟨⟨0, (S_3, ad), rfl, hpost, by rw [ht_]; exact hP, va_K.moved hW_.alike hK, hD⟩, hS.F ht_⟩) hS.2.2 (fk_get fk_cX11_act_1 6 rfl)
  rw [show va_rf none = .null from rfl]
  refine lv_astoreN (lv' := [(4, .null), (0, .ref (ad 0)), (1, .int (c_)), (2, .int (w_)), (3, .int (x))]) hx hb (fk_get fk_cX11_act_0 7 rfl) hl (by decide) rfl (fun ls hl => ?_)
  refine lv_aloadN hx hb (fk_get fk_cX11_act_0 8 rfl) (lv_at hl 0 rfl) ?_
  refine lv_ifnonnullN hx hb (fk_get fk_cX11_act_0 9 rfl) ?_
  refine lv_iconst (v := 0) hx hb (fk_get fk_cX11_act_0 10 rfl) (by decide) ?_
  subst hQ
  have hpost : XI S_3 ∧ Fr (fun j k => j = 61 ∨ (71 ≤ j ∧ (fK S j = 2 ∨ 71 + fC S ≤ j))) S S_3 ∧ (∀ j, j < 71 + fC S → ad j = ad j) ∧ (∃ z', z' ≤ 12 ∧ fF S_3 61 2 = nI z') ∧ ActP n c_ w_ x (0 : Int32) S S_3 := by
    exact ⟨hX_4, hF_5, (fun _ _ => rfl), ⟨⟨_, by omega, hw_2⟩, by first | exact Or.inl ⟨rfl, hw_2, Or.inl (by assumption)⟩ | exact Or.inl ⟨rfl, hw_2, Or.inr ⟨by assumption, by assumption, by assumption⟩⟩⟩⟩
  refine W.widen (k := 12) (n := 768) (by omega) (by omega) ?_
  exact W.iret (v := 0) hx hb hr (fun t_ ht_ hW_ => ⟨⟨0, (S_3, ad), rfl, hpost, by rw [ht_]; exact hP, va_K.moved hW_.alike hK, hD⟩, hS.F ht_⟩) hS.2.2 (fk_get fk_cX11_act_0 11 rfl)
