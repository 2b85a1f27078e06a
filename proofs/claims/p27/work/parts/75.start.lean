theorem app_P {D : va_G} {cl : List vw_C} {w1 w2 : va_W} {H : Heap} (h : va_P D cl (w1 ++ w2) H) : va_P D cl w1 H ∧ va_P D cl w2 H :=
  ⟨fun k q hk => h k q (by rw [List.getElem?_append_left (List.getElem?_eq_some_iff.mp hk).1]; exact hk), fun k q hk => h (w1.length + k) q (by rw [List.getElem?_append_right (Nat.le_add_right _ _), Nat.add_sub_cancel_left]; exact hk)⟩
theorem app_D {A : Nat → Prop} {w1 w2 : va_W} (h : va_D A (w1 ++ w2)) : va_D A w1 ∧ va_D A w2 ∧ ∀ (i j : Nat) (p q : Nat × va_E), w1[i]? = some p → w2[j]? = some q → p.1 ≠ q.1 := by
  have hl : ∀ (k : Nat) (q : Nat × va_E), w1[k]? = some q → (w1 ++ w2)[k]? = some q := fun k q hk => by rw [List.getElem?_append_left (List.getElem?_eq_some_iff.mp hk).1]; exact hk
  have hr : ∀ (k : Nat) (q : Nat × va_E), w2[k]? = some q → (w1 ++ w2)[w1.length + k]? = some q := fun k q hk => by rw [List.getElem?_append_right (Nat.le_add_right _ _), Nat.add_sub_cancel_left]; exact hk
  refine ⟨⟨fun i j p q hi hj e => h.1 i j p q (hl _ _ hi) (hl _ _ hj) e, fun k q hk => h.2 k q (hl _ _ hk)⟩, ⟨fun i j p q hi hj e => ?_, fun k q hk => h.2 _ q (hr _ _ hk)⟩, fun i j p q hi hj e => ?_⟩
  · have := h.1 _ _ p q (hr _ _ hi) (hr _ _ hj) e
    omega
  · have := h.1 _ _ p q (hl _ _ hi) (hr _ _ hj) e
    have := (List.getElem?_eq_some_iff.mp hi).1
    omega
set_option maxHeartbeats 4000000 in
set_option maxRecDepth 100000 in
/-- THE LAW, from its entry -/
theorem whole_start {p : Program} {e : Env} {s : State} {m : MethodId} {below : List Frame} {meth : Method} {c : Code} (l : Launch) (hflags : l.flags = flags0) {b L : Nat} {xs : Nat → Int32} (hL : L ≤ 3072) (C0 : lw_At p s m meth c b L xs) : W p l e room_1 s m #[Value.ref b] below meth c s.heap [] 0 0 (lw_Z below #[Value.ref b] s) (entryFrame m ([Value.ref b] : List Value).toArray 4) := by
  obtain ⟨hx, hb, hr, hml, hown, hts, hX, hbl, hlocks, hgv⟩ := id C0
  have hT : ∀ w ∈ TBL, w.before #[Value.ref b] s = true := fun w h => hts w (tbl_in w h)
  have hs := flat_of_before _ hgv
  obtain ⟨D, cA, hKK⟩ := k_of hts
  obtain ⟨t, ad, hEE⟩ := en_of hts hs
  obtain ⟨G, hG⟩ : ∃ G : GG, G = (D, cA, t, ad) := ⟨_, rfl⟩
  have hK : va_K G.1 vwCl (TYS G) s := by
    rw [hG]
    exact hKK t ad
  have hE : EN G (AL s) s s.heap := by
    rw [hG]
    exact hEE D cA
  have hAO := ao_of hts
  clear hKK hEE hG
  have hA : ∀ q : Nat, s.heap.size ≤ q → AL s q := fun _ h => h
  have hS : va_S (AL s) s.heap s.heap [] := va_S.rf
  have hP : va_P G.1 vwCl [] s.heap := fun k q h => by simp at h
  have hD : va_D (AL s) [] := ⟨fun i j p q h => by simp at h, fun k q h => by simp at h⟩
  have hl := lv_entry ([.ref b]) (n := 4) (Nat.le_of_ble_eq_true rfl)
  rw [lg_entry_eq]
  generalize (lg_sl ([.ref b]) ++ List.replicate (4 - (lg_sl ([.ref b])).length) Slot.unset).toArray = ls at hl ⊢
  have hl : lv_has ls 4 [(0, .ref b)] := hl
  refine va_new (ci := 13) (C := RX11) (T := TX11) (N := 11) (fs := [.null, .null, .null, .null, .null, .null, .null, .null, .null, .int 0, .int 0]) hx hb hT inX11 tyX11 tyX11_ok hown (hT _ m1_30) (hT _ m1_31) (hT _ m1_1) hK hP hD hS hA rfl (fun j hj => by rcases (show j = 0 ∨ j = 1 ∨ j = 2 ∨ j = 3 ∨ j = 4 ∨ j = 5 ∨ j = 6 ∨ j = 7 ∨ j = 8 ∨ j = 9 ∨ j = 10 by omega) with rfl | rfl | rfl | rfl | rfl | rfl | rfl | rfl | rfl | rfl | rfl <;> rfl) (Nat.le_of_ble_eq_true rfl) (Nat.le_of_ble_eq_true rfl) (fk_get fk_cL_law_0 0 rfl) (fun qX H hP hD hS => ?_)
  have hP : va_P G.1 vwCl [(qX, .inr (13, [.null, .null, .null, .null, .null, .null, .null, .null, .null, .int 0, .int 0]))] H := hP
  have hD : va_D (AL s) [(qX, .inr (13, [.null, .null, .null, .null, .null, .null, .null, .null, .null, .int 0, .int 0]))] := hD
  refine lv_dup hx hb (fk_get fk_cL_law_0 1 rfl) rfl ?_
  have hFc := va_self hD hS hA
  refine va_callv (va_runI (As := []) (rest := [.ref qX]) ⟨hx, hb, hml, hown, hT⟩ (c_i_main l G qX H.size) (tI 0 hT m1_32 m1_33 m1_1 m1_34 rfl rfl rfl (by decide +kernel) ⟨Nat.le_of_ble_eq_true rfl, Nat.le_of_ble_eq_true rfl⟩) ⟨PcC_blind, PcC_of hP hK hD hE hAO hS hFc _⟩ rfl rfl hl.1 rfl (lv_room (Nat.le_of_ble_eq_true rfl)) (fk_get fk_cL_law_0 2 rfl) ⟨Nat.le_of_ble_eq_true rfl, Nat.le_of_ble_eq_true rfl⟩) hS (fun q _ h => hFc q h) hFc (fun u t_ H locs ht_ hvm_ hw_ hB_ hz_ hk_ hS => ?_)
  obtain ⟨SX, aX⟩ := u
  obtain ⟨hPX, -, hDX⟩ := hB_
  rw [ht_] at hPX
  have hDX : va_D (AL s) (wX G aX SX) := hDX.weaken (fun k q _ h => hFc q.1 h)
  obtain ⟨e0, hXI, hFr, h62⟩ := hw_
  try dsimp only at e0 hXI hFr h62 hPX
  have hPX : va_P G.1 vwCl (wX G aX SX) H := hPX
  refine lv_astore_n (lv' := [(1, .ref qX), (0, .ref b)]) hx hb (fk_get fk_cL_law_0 3 rfl) rfl hl (by decide) rfl (fun ls hl => ?_)
  refine va_new (ci := 14) (C := RX12) (T := TX12) (N := 49) (fs := dR) hx hb hT inX12 tyX12 tyX12_ok hown (hT _ m5_95) (hT _ m5_96) (hT _ m1_17) hK hPX hDX hS hA rfl (fun j hj => by rcases (show j = 0 ∨ j = 1 ∨ j = 2 ∨ j = 3 ∨ j = 4 ∨ j = 5 ∨ j = 6 ∨ j = 7 ∨ j = 8 ∨ j = 9 ∨ j = 10 ∨ j = 11 ∨ j = 12 ∨ j = 13 ∨ j = 14 ∨ j = 15 ∨ j = 16 ∨ j = 17 ∨ j = 18 ∨ j = 19 ∨ j = 20 ∨ j = 21 ∨ j = 22 ∨ j = 23 ∨ j = 24 ∨ j = 25 ∨ j = 26 ∨ j = 27 ∨ j = 28 ∨ j = 29 ∨ j = 30 ∨ j = 31 ∨ j = 32 ∨ j = 33 ∨ j = 34 ∨ j = 35 ∨ j = 36 ∨ j = 37 ∨ j = 38 ∨ j = 39 ∨ j = 40 ∨ j = 41 ∨ j = 42 ∨ j = 43 ∨ j = 44 ∨ j = 45 ∨ j = 46 ∨ j = 47 ∨ j = 48 by omega) with rfl | rfl | rfl | rfl | rfl | rfl | rfl | rfl | rfl | rfl | rfl | rfl | rfl | rfl | rfl | rfl | rfl | rfl | rfl | rfl | rfl | rfl | rfl | rfl | rfl | rfl | rfl | rfl | rfl | rfl | rfl | rfl | rfl | rfl | rfl | rfl | rfl | rfl | rfl | rfl | rfl | rfl | rfl | rfl | rfl | rfl | rfl | rfl | rfl <;> rfl) (Nat.le_of_ble_eq_true rfl) (Nat.le_of_ble_eq_true rfl) (fk_get fk_cL_law_0 4 rfl) (fun qR H hP hD hS => ?_)
  obtain ⟨hPX, hPq⟩ := app_P hP
  obtain ⟨hDX, hDq, hdq⟩ := app_D hD
  refine lv_dup hx hb (fk_get fk_cL_law_0 5 rfl) rfl ?_
  have hFq := va_self hDq hS hA
  refine va_callv (va_runI (As := []) (rest := [.ref qR]) ⟨hx, hb, hml, hown, hT⟩ (c_Rinit l G qR H.size) (tI 0 hT m5_97 m5_98 m1_17 m5_99 rfl rfl rfl (by decide +kernel) ⟨Nat.le_of_ble_eq_true rfl, Nat.le_of_ble_eq_true rfl⟩) ⟨PcW_blind, PcW_of hPq hK hDq _⟩ rfl rfl hl.1 rfl (lv_room (Nat.le_of_ble_eq_true rfl)) (fk_get fk_cL_law_0 6 rfl) ⟨Nat.le_of_ble_eq_true rfl, Nat.le_of_ble_eq_true rfl⟩) hS (fun q _ h => hFq q h) hFq (fun aR t_ H1 locs ht_ hvm_ hw2 hB2 hz_ hk_ hS => ?_)
  obtain ⟨hPR, -, hDR1⟩ := hB2
  rw [ht_] at hPR
  have hPX1 : va_P G.1 vwCl (wX G aX SX) H1 := hPX.kept (fun k q hq => hk_ _ (hPX k q hq).lt (fun z => by
    rcases z with ⟨i, e, he⟩ | z
    · exact hdq k i q (q.1, e) hq he rfl
    · have := (hPX k q hq).lt
      have z : H.size ≤ q.1 := z
      omega))
  have hdis : ∀ i j, i < 71 + fC SX → j < 23 → aX i ≠ aR j := fun i j hi hj e => by
    rcases hDR1.2 j _ (ix_get hj) with ⟨k, c, hc⟩ | z
    · exact hdq i k _ _ (ix_get hi) hc e
    · have := lt_X hPX hi
      have z : H.size ≤ aR j := z
      omega
  have hDR : va_D (AL s) (wR G aR R0) := hDR1.weaken (fun k q _ h => hFq q.1 h)
  refine lv_astore_n (lv' := [(2, .ref qR), (1, .ref qX), (0, .ref b)]) hx hb (fk_get fk_cL_law_0 7 rfl) rfl hl (by decide) rfl (fun ls hl => ?_)
  refine lv_iconst (v := 0) hx hb (fk_get fk_cL_law_0 8 rfl) (by decide) ?_
  refine lv_istore_n (lv' := [(3, .int 0), (2, .ref qR), (1, .ref qX), (0, .ref b)]) hx hb (fk_get fk_cL_law_0 9 rfl) rfl hl (by decide) rfl (fun ls hl => ?_)
  have f2 : fF SX 0 10 = 0 := (hFr.F (j := 0) (k := 10) (by rw [X0_c]; omega) (fun q => by omega)).trans rfl
  have hLK : LK SX R0 := by
    refine ⟨fun k h1 h2 => (hFr.F (j := 9) (k := k) (by rw [X0_c]; omega) (fun q => by omega)).trans ?_, ⟨fun _ => rfl, fun _ => f2⟩, fun q => absurd f2 q⟩
    rcases k36 h1 h2 with rfl | rfl | rfl | rfl <;> rfl
  have hLM : LE SX R0 := le_0 hFr h62 f2
  have e0 : aX 0 = qX := e0
  have hw2 : aR 0 = qR := hw2
  refine W.widen (k := 103) (n := 2742) (Nat.le_of_ble_eq_true rfl) (Nat.le_of_ble_eq_true rfl) ?_
  exact law_loop hr hL C0 hK hE 513 0 aX SX R0 H1 locs 103 2742 ls (by omega) (by omega) (by omega) (by omega) ⟨hS, hPX1, hDX, hPR, hDR, hdis⟩ hXI ri_R0 hLK hLM (by rw [e0, hw2]; exact hl)
