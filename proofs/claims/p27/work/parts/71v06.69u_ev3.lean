theorem lst_tk {w k : Nat} {v0 : Int32} {C : ClU} {c : Nat × Int32 × Option (Nat × Unit)} (h : C[k]? = some c) : lstW w v0 (C.take (k + 1)) = if c.1 = w then c.2.1 else lstW w v0 (C.take k) := by
  rw [List.take_add_one, h, lstW_app]
  rfl
theorem addC_dr {E : Int32 → Int32 → Bool} {τ : Nat → Int32} {k : Nat} {s R : Int32} {C : ClU} {c : Nat × Int32 × Option (Nat × Unit)} (h : C[k]? = some c) (hI : addC E τ (C.drop k) s = R) : addC E τ (C.drop (k + 1)) (s + addc E τ c) = R := by
  obtain ⟨hk, e⟩ := List.getElem?_eq_some_iff.mp h
  rw [← hI, List.drop_eq_getElem_cons hk, e]
  rfl
theorem addC_end {E : Int32 → Int32 → Bool} {τ : Nat → Int32} {k : Nat} {s R : Int32} {C : ClU} (hk : C.length ≤ k) (hI : addC E τ (C.drop k) s = R) : s = R := by
  rw [List.drop_eq_nil_of_le hk] at hI
  exact hI
theorem addc_s1 {E : Int32 → Int32 → Bool} {τ : Nat → Int32} {k : Nat} {v n R : Int32} {C : ClU} {c : Nat × Int32 × Option (Nat × Unit)} {q : Nat × Unit} (h : C[k]? = some c) (hI : addC E τ (C.drop k) v = R) (hq : c.2.2 = some q) (hb : ¬ i01 (said E τ q.1) = 0) (hw : c.1 = 0) (h3 : n = c.2.1) : addC E τ (C.drop (k + 1)) (v + n) = R := by
  have e : addc E τ c = n := by
    unfold addc
    rw [hq]
    show (if said E τ q.1 = true then _ else _) = _
    rw [if_pos (i01_1 hb), if_pos hw, h3]
  rw [← e]
  exact addC_dr h hI
theorem addc_s2 {E : Int32 → Int32 → Bool} {τ : Nat → Int32} {k : Nat} {v n R : Int32} {C : ClU} {c : Nat × Int32 × Option (Nat × Unit)} {q : Nat × Unit} (h : C[k]? = some c) (hI : addC E τ (C.drop k) v = R) (hq : c.2.2 = some q) (hb : ¬ i01 (said E τ q.1) = 0) (hw : ¬ c.1 = 0) (h3 : n = c.2.1) : addC E τ (C.drop (k + 1)) (v + -n) = R := by
  have e : addc E τ c = -n := by
    unfold addc
    rw [hq]
    show (if said E τ q.1 = true then _ else _) = _
    rw [if_pos (i01_1 hb), if_neg hw, h3]
  rw [← e]
  exact addC_dr h hI
theorem addc_s0 {E : Int32 → Int32 → Bool} {τ : Nat → Int32} {k : Nat} {v R : Int32} {C : ClU} {c : Nat × Int32 × Option (Nat × Unit)} {q : Nat × Unit} (h : C[k]? = some c) (hI : addC E τ (C.drop k) v = R) (hq : c.2.2 = some q) (hb : i01 (said E τ q.1) = 0) : addC E τ (C.drop (k + 1)) v = R := by
  have e : addc E τ c = 0 := by
    unfold addc
    rw [hq]
    show (if said E τ q.1 = true then _ else _) = _
    rw [i01_0 hb]
    rfl
  have := addC_dr h hI
  rw [e, Int32.add_zero] at this
  exact this
theorem addc_sn {E : Int32 → Int32 → Bool} {τ : Nat → Int32} {k : Nat} {v R : Int32} {C : ClU} {c : Nat × Int32 × Option (Nat × Unit)} (h : C[k]? = some c) (hI : addC E τ (C.drop k) v = R) (hq : c.2.2 = none) : addC E τ (C.drop (k + 1)) v = R := by
  have e : addc E τ c = 0 := by
    unfold addc
    rw [hq]
  have := addC_dr h hI
  rw [e, Int32.add_zero] at this
  exact this
theorem HOK.at {S : FS} {h : Nat} (k : HOK S) (e : fF S 0 3 = nI h) (hh : h < 6) : CTh S h := by
  rcases k with k | ⟨n, h1, h2, h3⟩
  · exact absurd (e.symm.trans k) (fun q => absurd (show (0 : Int32) ≤ -1 by rw [← q]; exact (nI_leI (a := 0) (b := h) (by omega) (by omega)).mpr (Nat.zero_le _)) (by decide))
  · have : n = h := (nI_eq (by omega) (by omega)).mp (h2.symm.trans e)
    rw [← this]
    exact h3
section ASK
variable {g : Nat → Int32}
theorem ask_1 (h : g 0 = 1) : askF g = mx 1 (g 2 - g 4) := if_pos h
theorem ask_3 (h : g 0 = 3) : askF g = g 2 / 2 := (if_neg (by rw [h]; decide)).trans (if_pos h)
theorem ask_4 (h : g 0 = 4) : askF g = mx 1 (mx 1 (g 2 - g 4) - 2) := (if_neg (by rw [h]; decide)).trans ((if_neg (by rw [h]; decide)).trans (if_pos h))
theorem ask_6 {x : Nat} (h : g 0 = 6) (hx : g 6 = nI x) (hx2 : x < 1000000) : askF g = g 2 / 2 + g (8 + x % 4) := (if_neg (by rw [h]; decide)).trans ((if_neg (by rw [h]; decide)).trans ((if_neg (by rw [h]; decide)).trans ((if_pos h).trans (by rw [hx, nI_clamp (by omega)]))))
theorem ask_d (h1 : ¬ g 0 = 1) (h3 : ¬ g 0 = 3) (h4 : ¬ g 0 = 4) (h6 : ¬ g 0 = 6) : askF g = g 2 := (if_neg h1).trans ((if_neg h3).trans ((if_neg h4).trans (if_neg h6)))
theorem ask_c {k : Int32} (h : g 0 = k) (hk : k = 2 ∨ k = 5) : askF g = g 2 := ask_d (by rw [h]; rcases hk with rfl | rfl <;> decide) (by rw [h]; rcases hk with rfl | rfl <;> decide) (by rw [h]; rcases hk with rfl | rfl <;> decide) (by rw [h]; rcases hk with rfl | rfl <;> decide)
theorem let_0 (h : g 0 = 0) : letF g = g 1 := if_pos h
theorem let_1 (h : g 0 = 1) : letF g = g 1 / 2 := (if_neg (by rw [h]; decide)).trans (if_pos h)
theorem let_2 (h : g 0 = 2) : letF g = 2 * g 1 := (if_neg (by rw [h]; decide)).trans ((if_neg (by rw [h]; decide)).trans (if_pos h))
theorem let_4 (h : g 0 = 4) : letF g = mx 0 (g 1 / 2 - g 4) := (if_neg (by rw [h]; decide)).trans ((if_neg (by rw [h]; decide)).trans ((if_neg (by rw [h]; decide)).trans (if_pos h)))
theorem let_5 (h : g 0 = 5) : letF g = 2 * g 1 := (if_neg (by rw [h]; decide)).trans ((if_neg (by rw [h]; decide)).trans ((if_neg (by rw [h]; decide)).trans ((if_neg (by rw [h]; decide)).trans (if_pos h))))
theorem let_3 (h : g 0 = 3) : letF g = 99 := (if_neg (by rw [h]; decide)).trans ((if_neg (by rw [h]; decide)).trans ((if_neg (by rw [h]; decide)).trans ((if_neg (by rw [h]; decide)).trans (if_neg (by rw [h]; decide)))))
theorem let_d (h0 : ¬ g 0 = 0) (h1 : ¬ g 0 = 1) (h2 : ¬ g 0 = 2) (h4 : ¬ g 0 = 4) (h5 : ¬ g 0 = 5) : letF g = 99 := (if_neg h0).trans ((if_neg h1).trans ((if_neg h2).trans ((if_neg h4).trans (if_neg h5))))
end ASK
theorem mox_r {off tr ad s : Int32} (h : s = off + tr + ad) : (if s < 0 then 0 else s) = moX off tr ad := by
  subst h
  unfold moX
  by_cases q : off + tr + ad < 0
  · rw [if_pos q, if_neg (fun w => Int32.lt_irrefl (Int32.lt_trans q w))]
  · rw [if_neg q]
    by_cases q2 : 0 < off + tr + ad
    · rw [if_pos q2]
    · rw [if_neg q2]
      exact Int32.le_antisymm (Int32.not_lt.mp q2) (Int32.not_lt.mp q)
def gR (S : FS) (j : Nat) : Nat → Int32 := fun k => if k < 12 then fA S 1 (12 * j + k) else 0
theorem gR_k {S : FS} {j k : Nat} (h : k < 12) : gR S j k = fA S 1 (12 * j + k) := if_pos h
theorem ecr_e {S : FS} {j : Nat} {c : Int32} : ERE (ECR S j c) (Eg c (gR S j)) := ere_cu (c := c) (V := valR S j c) rfl rfl rfl rfl rfl rfl
theorem ecr_c {S T : FS} {j : Nat} {c : Int32} (h : HFr S T) : ERE (ECR T j c) (Eg c (gR S j)) := by
  have e : gR T j = gR S j := by
    unfold gR
    rw [h.a (i := 1) (by decide)]
  rw [← e]
  exact ecr_e
set_option maxHeartbeats 800000 in
set_option maxRecDepth 100000 in
theorem c_lastOfE (l : Launch) (G : GG) (ad : Nat → Nat) (S : FS) (sz : Nat) (pw z : Nat) (τ : Nat → Int32) (C : ClU) (without : Int32) (hHOK : HOK S) (hHX : HOX S z τ C) (hw4 : pw < 4) : Met l yX12_lastOf (Cond.code yX12_lastOf cX12_lastOf 5 (some .int) :: TBL) ({ frames := 2, cells := 0, slots := 0, locals := 64 } : Room) (PcW G (wR G ad S) sz [.ref (ad 0), .int ((nI pw)), .int (without)]) (vp_Si (fun (r : Int32) => r = lstW pw without C)) 0 0 (fun _ => False) := by
  refine Met.ofW (cc := cX12_lastOf) (maxL := 5) (ret := (some .int)) (by decide) rfl ?_
  intro p e s m args below meth c₀ s₁ B hml hv
  obtain ⟨rfl, hsz, hP, hK, hD0⟩ := hv
  have hx := B.exec
  have hb := B.bytes
  have hr := B.returns
  have hT : ∀ w ∈ TBL, w.before ([.ref (ad 0), .int ((nI pw)), .int (without)] : List Value).toArray s = true := fun w h => atoms_spec (ws := Cond.code yX12_lastOf cX12_lastOf 5 (some .int) :: TBL) B.pre w (List.mem_cons_of_mem _ h)
  have hown : s.vm.findClass "LittleMoreModel" = some m.cls := findClass_of_methodNamed B.named
  have hlocks := B.notSynchronized
  have hD := hD0
  have hP : va_P G.1 vwCl (wR G ad S) s.heap := hP
  have hl := lv_entry ([.ref (ad 0), .int ((nI pw)), .int (without)]) (n := 5) (Nat.le_of_ble_eq_true rfl)
  rw [lg_entry_eq]
  generalize (lg_sl ([.ref (ad 0), .int ((nI pw)), .int (without)]) ++ List.replicate (5 - (lg_sl ([.ref (ad 0), .int ((nI pw)), .int (without)])).length) Slot.unset).toArray = ls at hl ⊢
  have hl : lv_has ls 5 [(0, .ref (ad 0)), (1, .int ((nI pw))), (2, .int (without))] := hl
  refine W_abs (fun Q hQ => ?_)
  generalize ([.ref (ad 0), .int ((nI pw)), .int (without)] : List Value).toArray = args at hT hQ ⊢
  refine lv_iload_n hx hb (fk_get fk_cX12_lastOf_0 0 rfl) rfl (lv_at hl 2 rfl) ?_
  refine lv_istore_n (lv' := [(3, .int (without)), (0, .ref (ad 0)), (1, .int ((nI pw))), (2, .int (without))]) hx hb (fk_get fk_cX12_lastOf_0 1 rfl) rfl hl (by decide) rfl (fun ls hl => ?_)
  refine lv_iconst (v := 0) hx hb (fk_get fk_cX12_lastOf_0 2 rfl) (by decide) ?_
  refine lv_istore (lv' := [(4, .int (0)), (3, .int (without)), (0, .ref (ad 0)), (1, .int ((nI pw))), (2, .int (without))]) hx hb (fk_get fk_cX12_lastOf_0 3 rfl) hl (by decide) rfl (fun ls hl => ?_)
  have lp_1 : ∀ (fu : Nat) (k : Nat) (v : Int32) (ls : Array Slot),  (k ≤ C.length) → (C.length < k + fu) → (v = lstW pw without (C.take k)) → lv_has ls 5 [(4, .int ((nI k))), (3, .int (v)), (0, .ref (ad 0)), (1, .int ((nI pw))), (2, .int (without))] → W p l e ({ frames := 2, cells := 0, slots := 0, locals := 64 } : Room) s m args below meth c₀ s.heap [] 0 0 Q (F0 m 5 ls []) := by
    intro fu
    induction fu with
    | zero =>
      intro k v ls hk hf hI hl
      exact absurd hf (by omega)
    | succ fu ih =>
      intro k v ls hk hf hI hl
      refine lv_aload_n hx hb (fk_get fk_cX12_lastOf_0 4 rfl) rfl (lv_at hl 2 rfl) ?_
      refine va_get (D := G.1) (ci := 14) (v := .int ((fF S 0 3))) (C := RX12) (T := TX12) (N := 49) hx hb hT inX12 hown hK hP 0 (ix_at (by decide) (cR_0 G ad S)) rfl 3 (by decide) (hT _ m5_104) (fun _ h9 => h9) rfl (fk_get fk_cX12_lastOf_0 5 rfl) ?_
      refine lv_if_lt (tgt := 71) hx hb (fk_get fk_cX12_lastOf_0 6 rfl) (by decide) (fun c_2 => ?_) (fun c_2 => ?_)
      · refine lv_iload_n hx hb (fk_get fk_cX12_lastOf_1 7 rfl) rfl (lv_at hl 1 rfl) ?_
        subst hQ
        have hpost : (v : Int32) = lstW pw without C := by
          first | (rw [hI, List.take_of_length_le hge]; done) | (rw [hI, hHX.neg (by assumption), List.take_nil])
        exact W.iret (v := v) hx hb hr (fun t_ ht_ hW_ => ⟨v, rfl, hpost, ht_⟩) (fun q h => by cases h) (fk_get fk_cX12_lastOf_1 8 rfl)
      obtain ⟨h, hh6, hh, h8, hz1, hτ, h12, hk10, hcl, hsay⟩ := hHX.pos (by first | exact c_2 | (rw [← hH.2.2.1 3]; exact c_2))
      refine lv_iload hx hb (fk_get fk_cX12_lastOf_0 7 rfl) (lv_at hl 0 rfl) ?_
      refine lv_aload_n hx hb (fk_get fk_cX12_lastOf_0 8 rfl) rfl (lv_at hl 2 rfl) ?_
      refine va_get (D := G.1) (ci := 14) (v := .ref (ad 12)) (C := RX12) (T := TX12) (N := 49) hx hb hT inX12 hown hK hP 0 (ix_at (by decide) (cR_0 G ad S)) rfl 24 (by decide) (hT _ m5_125) (fun _ h9 => h9) rfl (fk_get fk_cX12_lastOf_0 9 rfl) ?_
      refine lv_aload_n hx hb (fk_get fk_cX12_lastOf_0 10 rfl) rfl (lv_at hl 2 rfl) ?_
      refine va_get (D := G.1) (ci := 14) (v := .int ((fF S 0 3))) (C := RX12) (T := TX12) (N := 49) hx hb hT inX12 hown hK hP 0 (ix_at (by decide) (cR_0 G ad S)) rfl 3 (by decide) (hT _ m5_104) (fun _ h9 => h9) rfl (fk_get fk_cX12_lastOf_0 11 rfl) ?_
      refine r_iald (f := fA S 12) hx hb hK hP 12 0 (ix_at (by decide) (cR_clauses G ad S)) rfl (h) (hh) (by omega) (by decide) (fk_get fk_cX12_lastOf_0 12 rfl) ?_
      refine lv_icmp_ge (tgt := 71) hx hb (fk_get fk_cX12_lastOf_0 13 rfl) (by decide) (fun c_3 => ?_) (fun c_3 => ?_)
      · have hge : C.length ≤ k := Nat.le_of_not_lt (fun w => absurd c_3 (by rw [h12]; exact fun q => absurd ((nI_leI (a := C.length) (b := k) (by omega) (by omega)).mp q) (by omega)))
        refine lv_iload_n hx hb (fk_get fk_cX12_lastOf_1 7 rfl) rfl (lv_at hl 1 rfl) ?_
        subst hQ
        have hpost : (v : Int32) = lstW pw without C := by
          first | (rw [hI, List.take_of_length_le hge]; done) | (rw [hI, hHX.neg (by assumption), List.take_nil])
        exact W.iret (v := v) hx hb hr (fun t_ ht_ hW_ => ⟨v, rfl, hpost, ht_⟩) (fun q h => by cases h) (fk_get fk_cX12_lastOf_1 8 rfl)
      have hlt : k < C.length := Nat.lt_of_not_le (fun w => c_3 (by rw [h12]; exact (nI_leI (a := C.length) (b := k) (by omega) (by omega)).mpr w))
      obtain ⟨cc_, hck⟩ : ∃ c, C[k]? = some c := ⟨_, List.getElem?_eq_getElem hlt⟩
      obtain ⟨hc1, hc2, hc3, -, -⟩ := hcl k cc_ hck
      refine lv_aload_n hx hb (fk_get fk_cX12_lastOf_0 14 rfl) rfl (lv_at hl 2 rfl) ?_
      refine va_get (D := G.1) (ci := 14) (v := .ref (ad 9)) (C := RX12) (T := TX12) (N := 49) hx hb hT inX12 hown hK hP 0 (ix_at (by decide) (cR_0 G ad S)) rfl 21 (by decide) (hT _ m5_122) (fun _ h9 => h9) rfl (fk_get fk_cX12_lastOf_0 15 rfl) ?_
      refine lv_bipush (v := 10) hx hb (fk_get fk_cX12_lastOf_0 16 rfl) (by decide) ?_
      refine lv_aload_n hx hb (fk_get fk_cX12_lastOf_0 17 rfl) rfl (lv_at hl 2 rfl) ?_
      refine va_get (D := G.1) (ci := 14) (v := .int ((fF S 0 3))) (C := RX12) (T := TX12) (N := 49) hx hb hT inX12 hown hK hP 0 (ix_at (by decide) (cR_0 G ad S)) rfl 3 (by decide) (hT _ m5_104) (fun _ h9 => h9) rfl (fk_get fk_cX12_lastOf_0 18 rfl) ?_
      refine lv_imul hx hb (fk_get fk_cX12_lastOf_0 19 rfl) ?_
      refine lv_iload hx hb (fk_get fk_cX12_lastOf_0 20 rfl) (lv_at hl 0 rfl) ?_
      refine lv_iadd hx hb (fk_get fk_cX12_lastOf_0 21 rfl) ?_
      refine r_iald (f := fA S 9) hx hb hK hP 9 0 (ix_at (by decide) (cR_clauseWhat G ad S)) rfl (((10 * h) + k)) (n_add (n_mul (rfl) (hh)) (rfl)) (by omega) (by decide) (fk_get fk_cX12_lastOf_0 22 rfl) ?_
      refine lv_iload_n hx hb (fk_get fk_cX12_lastOf_0 23 rfl) rfl (lv_at hl 3 rfl) ?_
      refine lv_icmp_ne (tgt := 63) hx hb (fk_get fk_cX12_lastOf_0 24 rfl) (by decide) (fun c_4 => ?_) (fun c_4 => ?_)
      · have hcw : ¬ cc_.1 = pw := fun q => c_4 (hc1.trans (congrArg nI q))
        refine lv_iload_n hx hb (fk_get fk_cX12_lastOf_1 3 rfl) rfl (lv_at hl 1 rfl) ?_
        refine lv_istore_n (lv' := [(3, .int (v)), (4, .int ((nI k))), (0, .ref (ad 0)), (1, .int ((nI pw))), (2, .int (without))]) hx hb (fk_get fk_cX12_lastOf_1 4 rfl) rfl hl (by decide) rfl (fun ls hl => ?_)
        refine lv_iinc (v := (nI (k + 1))) (lv' := [(4, .int ((nI (k + 1)))), (3, .int (v)), (0, .ref (ad 0)), (1, .int ((nI pw))), (2, .int (without))]) hx hb (fk_get fk_cX12_lastOf_1 5 rfl) hl (k := 1) rfl ((nI_1 k)) (by decide) rfl (fun ls hl => ?_)
        refine lv_goto (tgt := 5) hx hb (fk_get fk_cX12_lastOf_1 6 rfl) (by decide) ?_
        exact ih (k + 1) (v) ls (by omega) (by omega) ((by rw [lst_tk hck]; first | (rw [if_pos (by assumption)]; first | rfl | exact hc3) | (rw [if_neg (by assumption)]; exact hI))) (lv_sub hl [0, 1, 2, 3, 4] rfl)
      have hcw : cc_.1 = pw := (nI_eq (by omega) (by omega)).mp (hc1.symm.trans (by first | exact c_4 | exact Decidable.not_not.mp c_4))
      refine lv_aload_n hx hb (fk_get fk_cX12_lastOf_0 25 rfl) rfl (lv_at hl 2 rfl) ?_
      refine va_get (D := G.1) (ci := 14) (v := .ref (ad 10)) (C := RX12) (T := TX12) (N := 49) hx hb hT inX12 hown hK hP 0 (ix_at (by decide) (cR_0 G ad S)) rfl 22 (by decide) (hT _ m5_123) (fun _ h9 => h9) rfl (fk_get fk_cX12_lastOf_0 26 rfl) ?_
      refine lv_bipush (v := 10) hx hb (fk_get fk_cX12_lastOf_0 27 rfl) (by decide) ?_
      refine lv_aload_n hx hb (fk_get fk_cX12_lastOf_0 28 rfl) rfl (lv_at hl 2 rfl) ?_
      refine va_get (D := G.1) (ci := 14) (v := .int ((fF S 0 3))) (C := RX12) (T := TX12) (N := 49) hx hb hT inX12 hown hK hP 0 (ix_at (by decide) (cR_0 G ad S)) rfl 3 (by decide) (hT _ m5_104) (fun _ h9 => h9) rfl (fk_get fk_cX12_lastOf_0 29 rfl) ?_
      refine lv_imul hx hb (fk_get fk_cX12_lastOf_0 30 rfl) ?_
      refine lv_iload hx hb (fk_get fk_cX12_lastOf_0 31 rfl) (lv_at hl 0 rfl) ?_
      refine lv_iadd hx hb (fk_get fk_cX12_lastOf_1 0 rfl) ?_
      refine r_iald (f := fA S 10) hx hb hK hP 10 0 (ix_at (by decide) (cR_clauseN G ad S)) rfl (((10 * h) + k)) (n_add (n_mul (rfl) (hh)) (rfl)) (by omega) (by decide) (fk_get fk_cX12_lastOf_1 1 rfl) ?_
      refine lv_goto (tgt := 64) hx hb (fk_get fk_cX12_lastOf_1 2 rfl) (by decide) ?_
      refine lv_istore_n (lv' := [(3, .int ((fA S 10 (((10 * h) + k))))), (4, .int ((nI k))), (0, .ref (ad 0)), (1, .int ((nI pw))), (2, .int (without))]) hx hb (fk_get fk_cX12_lastOf_1 4 rfl) rfl hl (by decide) rfl (fun ls hl => ?_)
      refine lv_iinc (v := (nI (k + 1))) (lv' := [(4, .int ((nI (k + 1)))), (3, .int ((fA S 10 (((10 * h) + k))))), (0, .ref (ad 0)), (1, .int ((nI pw))), (2, .int (without))]) hx hb (fk_get fk_cX12_lastOf_1 5 rfl) hl (k := 1) rfl ((nI_1 k)) (by decide) rfl (fun ls hl => ?_)
      refine lv_goto (tgt := 5) hx hb (fk_get fk_cX12_lastOf_1 6 rfl) (by decide) ?_
      exact ih (k + 1) ((fA S 10 (((10 * h) + k)))) ls (by omega) (by omega) ((by rw [lst_tk hck]; first | (rw [if_pos (by assumption)]; first | rfl | exact hc3) | (rw [if_neg (by assumption)]; exact hI))) (lv_sub hl [0, 1, 2, 3, 4] rfl)
  exact lp_1 (C.length + 1) (0) (without) ls (by omega) (by omega) (rfl) (lv_sub hl [0, 1, 2, 3, 4] rfl)
set_option maxHeartbeats 800000 in
set_option maxRecDepth 100000 in
theorem c_moreOfE (l : Launch) (G : GG) (ad : Nat → Nat) (S : FS) (sz : Nat) (z : Nat) (τ : Nat → Int32) (C : ClU) (c : Int32) (j : Nat) (hHOK : HOK S) (hHX : HOX S z τ C) (ej : c = nI j) (hj : j < 6) : Met l yX12_moreOf (Cond.code yX12_moreOf cX12_moreOf 5 (some .int) :: TBL) ({ frames := 5, cells := 0, slots := 0, locals := 148 } : Room) (PcW G (wR G ad S) sz [.ref (ad 0), .int (c)]) (va_Qi (fun (r : Int32) (S' : FS) => HFr S S' ∧ r = (moF (fF S 0 2) τ C c (gR S j))) (fun S' t => BW G (va_A (wR G ad S) sz) (wR G ad S') t) (va_A (wR G ad S) sz)) 0 0 (va_A (wR G ad S) sz) := by
  refine Met.ofW (cc := cX12_moreOf) (maxL := 5) (ret := (some .int)) (by decide) rfl ?_
  intro p e s m args below meth c₀ s₁ B hml hv
  obtain ⟨rfl, hsz, hP, hK, hD0⟩ := hv
  have hx := B.exec
  have hb := B.bytes
  have hr := B.returns
  have hT : ∀ w ∈ TBL, w.before ([.ref (ad 0), .int (c)] : List Value).toArray s = true := fun w h => atoms_spec (ws := Cond.code yX12_moreOf cX12_moreOf 5 (some .int) :: TBL) B.pre w (List.mem_cons_of_mem _ h)
  have hown : s.vm.findClass "LittleMoreModel" = some m.cls := findClass_of_methodNamed B.named
  have hlocks := B.notSynchronized
  subst hsz
  have hD := hD0.self (sz := s.heap.size)
  generalize hAe : va_A (wR G ad S) s.heap.size = A at hD ⊢
  have hA : ∀ q : Nat, s.heap.size ≤ q → A q := fun q h => by rw [← hAe]; exact Or.inr h
  have hS : va_S A s.heap s.heap [] := va_S.rf
  have hP : va_P G.1 vwCl (wR G ad S) s.heap := hP
  have hl := lv_entry ([.ref (ad 0), .int (c)]) (n := 5) (Nat.le_of_ble_eq_true rfl)
  rw [lg_entry_eq]
  generalize (lg_sl ([.ref (ad 0), .int (c)]) ++ List.replicate (5 - (lg_sl ([.ref (ad 0), .int (c)])).length) Slot.unset).toArray = ls at hl ⊢
  have hl : lv_has ls 5 [(0, .ref (ad 0)), (1, .int (c))] := hl
  refine W_abs (fun Q hQ => ?_)
  generalize ([.ref (ad 0), .int (c)] : List Value).toArray = args at hT hQ ⊢
  refine lv_aload_n hx hb (fk_get fk_cX12_moreOf_0 0 rfl) rfl (lv_at hl 0 rfl) ?_
  refine va_get (D := G.1) (ci := 14) (v := .int ((fF S 0 2))) (C := RX12) (T := TX12) (N := 49) hx hb hT inX12 hown hK hP 0 (ix_at (by decide) (cR_0 G ad S)) rfl 2 (by decide) (hT _ m5_103) (fun _ h9 => h9) rfl (fk_get fk_cX12_moreOf_0 1 rfl) ?_
  refine lv_aload_n hx hb (fk_get fk_cX12_moreOf_0 2 rfl) rfl (lv_at hl 0 rfl) ?_
  refine lv_iload_n hx hb (fk_get fk_cX12_moreOf_0 3 rfl) rfl (lv_at hl 1 rfl) ?_
  refine lv_iconst (v := 3) hx hb (fk_get fk_cX12_moreOf_0 4 rfl) (by decide) ?_
  refine vp_callSi (W.runV (As := [.int (c), .int (3)]) (rest := [.int ((fF S 0 2))]) ⟨hx, hb, hml, hown, hT⟩ (c_of0 l G ad S s.heap.size (c) (3) (((12 * j) + 3)) (n_add (n_mul (rfl) (ej)) (rfl)) (by omega)) (tV 2 hT m6_119 m6_121 mp_34 m1_17 m6_122 rfl rfl (by decide +kernel) ⟨Nat.le_of_ble_eq_true rfl, Nat.le_of_ble_eq_true rfl⟩) ⟨PcW_blind, va_recv hK hP (ci := 14) (q0 := 0) rfl (ix_at (by decide) (cR_0 G ad S)), PcW_of hP hK hD _⟩ rfl rfl hl.1 rfl (lv_room (Nat.le_of_ble_eq_true rfl)) (fk_get fk_cX12_moreOf_0 5 rfl) ⟨Nat.zero_le _, Nat.zero_le _⟩) (fun r_1 hw_2 => ?_)
  try dsimp only at hw_2
  subst hw_2
  refine lv_iadd hx hb (fk_get fk_cX12_moreOf_0 6 rfl) ?_
  refine lv_istore_n (lv' := [(2, .int (((fF S 0 2) + (fA S 1 (12 * j + 3))))), (0, .ref (ad 0)), (1, .int (c))]) hx hb (fk_get fk_cX12_moreOf_0 7 rfl) rfl hl (by decide) rfl (fun ls hl => ?_)
  refine lv_iconst (v := 0) hx hb (fk_get fk_cX12_moreOf_0 8 rfl) (by decide) ?_
  refine lv_istore_n (lv' := [(3, .int (0)), (2, .int (((fF S 0 2) + (fA S 1 (12 * j + 3))))), (0, .ref (ad 0)), (1, .int (c))]) hx hb (fk_get fk_cX12_moreOf_0 9 rfl) rfl hl (by decide) rfl (fun ls hl => ?_)
  have lp_3 : ∀ (fu : Nat) (k : Nat) (v : Int32) (SL : FS) (H_5 : Heap) (locs_6 : List Loc) (ls : Array Slot),  (k ≤ C.length) → (C.length < k + fu) → (HFr S SL) → (addC (Eg c (gR S j)) τ (C.drop k) v = addC (Eg c (gR S j)) τ C (fF S 0 2 + gR S j 3)) → va_P G.1 vwCl (wR G ad SL) H_5 → va_D A (wR G ad SL) → va_S A s.heap H_5 locs_6 → lv_has ls 5 [(3, .int ((nI k))), (2, .int (v)), (0, .ref (ad 0)), (1, .int (c))] → W p l e ({ frames := 5, cells := 0, slots := 0, locals := 148 } : Room) s m args below meth c₀ H_5 locs_6 0 0 Q (F0 m 14 ls []) := by
    intro fu
    induction fu with
    | zero =>
      intro k v SL H_5 locs_6 ls hk hf hH hI hP hD hS hl
      exact absurd hf (by omega)
    | succ fu ih =>
      intro k v SL H_5 locs_6 ls hk hf hH hI hP hD hS hl
      refine lv_aload_n hx hb (fk_get fk_cX12_moreOf_0 10 rfl) rfl (lv_at hl 2 rfl) ?_
      refine va_get (D := G.1) (ci := 14) (v := .int ((fF SL 0 3))) (C := RX12) (T := TX12) (N := 49) hx hb hT inX12 hown hK hP 0 (ix_at (by decide) (cR_0 G ad SL)) rfl 3 (by decide) (hT _ m5_104) (fun _ h9 => h9) rfl (fk_get fk_cX12_moreOf_0 11 rfl) ?_
      refine lv_if_lt (tgt := 108) hx hb (fk_get fk_cX12_moreOf_0 12 rfl) (by decide) (fun c_7 => ?_) (fun c_7 => ?_)
      · have hsum : v = fF S 0 2 + gR S j 3 + addC (Eg c (gR S j)) τ C 0 := by
          rw [← addC_s, ← hI, hHX.neg (by rw [← hH.2.2.1 3]; exact c_7)]
          cases k <;> rfl
        refine lv_iload_n hx hb (fk_get fk_cX12_moreOf_1 29 rfl) rfl (lv_at hl 1 rfl) ?_
        refine lv_if_ge (tgt := 116) hx hb (fk_get fk_cX12_moreOf_1 30 rfl) (by decide) (fun c_8 => ?_) (fun c_8 => ?_)
        · refine lv_iload_n hx hb (fk_get fk_cX12_moreOf_2 1 rfl) rfl (lv_at hl 1 rfl) ?_
          subst hQ
          have hpost : HFr S SL ∧ (v : Int32) = (moF (fF S 0 2) τ C c (gR S j)) := by
            first
            | exact ⟨hH, (if_pos (by assumption)).symm.trans (mox_r hsum)⟩
            | exact ⟨hH, (if_neg (by assumption)).symm.trans (mox_r hsum)⟩
            | exact ⟨hH, (if_neg (Int32.not_lt.mpr (by assumption))).symm.trans (mox_r hsum)⟩
            | exact ⟨hH, (if_pos (Int32.not_le.mp (by assumption))).symm.trans (mox_r hsum)⟩
          exact W.iret (v := v) hx hb hr (fun t_ ht_ hW_ => ⟨⟨v, SL, rfl, hpost, by rw [ht_]; exact hP, va_K.moved hW_.alike hK, hD⟩, hS.F ht_⟩) hS.2.2 (fk_get fk_cX12_moreOf_2 2 rfl)
        refine lv_iconst (v := 0) hx hb (fk_get fk_cX12_moreOf_1 31 rfl) (by decide) ?_
        refine lv_goto (tgt := 117) hx hb (fk_get fk_cX12_moreOf_2 0 rfl) (by decide) ?_
        subst hQ
        have hpost : HFr S SL ∧ (0 : Int32) = (moF (fF S 0 2) τ C c (gR S j)) := by
          first
          | exact ⟨hH, (if_pos (by assumption)).symm.trans (mox_r hsum)⟩
          | exact ⟨hH, (if_neg (by assumption)).symm.trans (mox_r hsum)⟩
          | exact ⟨hH, (if_neg (Int32.not_lt.mpr (by assumption))).symm.trans (mox_r hsum)⟩
          | exact ⟨hH, (if_pos (Int32.not_le.mp (by assumption))).symm.trans (mox_r hsum)⟩
        exact W.iret (v := 0) hx hb hr (fun t_ ht_ hW_ => ⟨⟨0, SL, rfl, hpost, by rw [ht_]; exact hP, va_K.moved hW_.alike hK, hD⟩, hS.F ht_⟩) hS.2.2 (fk_get fk_cX12_moreOf_2 2 rfl)
      obtain ⟨h, hh6, hh, h8, hz1, hτ, h12, hk10, hcl, hsay⟩ := hHX.pos (by first | exact c_7 | (rw [← hH.2.2.1 3]; exact c_7))
      refine lv_iload_n hx hb (fk_get fk_cX12_moreOf_0 13 rfl) rfl (lv_at hl 0 rfl) ?_
      refine lv_aload_n hx hb (fk_get fk_cX12_moreOf_0 14 rfl) rfl (lv_at hl 2 rfl) ?_
      refine va_get (D := G.1) (ci := 14) (v := .ref (ad 12)) (C := RX12) (T := TX12) (N := 49) hx hb hT inX12 hown hK hP 0 (ix_at (by decide) (cR_0 G ad SL)) rfl 24 (by decide) (hT _ m5_125) (fun _ h9 => h9) rfl (fk_get fk_cX12_moreOf_0 15 rfl) ?_
      refine lv_aload_n hx hb (fk_get fk_cX12_moreOf_0 16 rfl) rfl (lv_at hl 2 rfl) ?_
      refine va_get (D := G.1) (ci := 14) (v := .int ((fF SL 0 3))) (C := RX12) (T := TX12) (N := 49) hx hb hT inX12 hown hK hP 0 (ix_at (by decide) (cR_0 G ad SL)) rfl 3 (by decide) (hT _ m5_104) (fun _ h9 => h9) rfl (fk_get fk_cX12_moreOf_0 17 rfl) ?_
      refine r_iald (f := fA SL 12) hx hb hK hP 12 0 (ix_at (by decide) (cR_clauses G ad SL)) rfl (h) (((hH.2.2.1 3).trans hh)) (by omega) (by decide) (fk_get fk_cX12_moreOf_0 18 rfl) ?_
      refine lv_icmp_ge (tgt := 108) hx hb (fk_get fk_cX12_moreOf_0 19 rfl) (by decide) (fun c_9 => ?_) (fun c_9 => ?_)
      · have hsum : v = fF S 0 2 + gR S j 3 + addC (Eg c (gR S j)) τ C 0 := by
          rw [← addC_s]
          exact addC_end (Nat.le_of_not_lt (fun w => absurd c_9 (by rw [show fA SL 12 h = nI C.length from (congrFun (hH.a (i := 12) (by decide)) _).trans h12]; exact fun q => absurd ((nI_leI (a := C.length) (b := k) (by omega) (by omega)).mp q) (by omega)))) hI
        refine lv_iload_n hx hb (fk_get fk_cX12_moreOf_1 29 rfl) rfl (lv_at hl 1 rfl) ?_
        refine lv_if_ge (tgt := 116) hx hb (fk_get fk_cX12_moreOf_1 30 rfl) (by decide) (fun c_10 => ?_) (fun c_10 => ?_)
        · refine lv_iload_n hx hb (fk_get fk_cX12_moreOf_2 1 rfl) rfl (lv_at hl 1 rfl) ?_
          subst hQ
          have hpost : HFr S SL ∧ (v : Int32) = (moF (fF S 0 2) τ C c (gR S j)) := by
            first
            | exact ⟨hH, (if_pos (by assumption)).symm.trans (mox_r hsum)⟩
            | exact ⟨hH, (if_neg (by assumption)).symm.trans (mox_r hsum)⟩
            | exact ⟨hH, (if_neg (Int32.not_lt.mpr (by assumption))).symm.trans (mox_r hsum)⟩
            | exact ⟨hH, (if_pos (Int32.not_le.mp (by assumption))).symm.trans (mox_r hsum)⟩
          exact W.iret (v := v) hx hb hr (fun t_ ht_ hW_ => ⟨⟨v, SL, rfl, hpost, by rw [ht_]; exact hP, va_K.moved hW_.alike hK, hD⟩, hS.F ht_⟩) hS.2.2 (fk_get fk_cX12_moreOf_2 2 rfl)
        refine lv_iconst (v := 0) hx hb (fk_get fk_cX12_moreOf_1 31 rfl) (by decide) ?_
        refine lv_goto (tgt := 117) hx hb (fk_get fk_cX12_moreOf_2 0 rfl) (by decide) ?_
        subst hQ
        have hpost : HFr S SL ∧ (0 : Int32) = (moF (fF S 0 2) τ C c (gR S j)) := by
          first
          | exact ⟨hH, (if_pos (by assumption)).symm.trans (mox_r hsum)⟩
          | exact ⟨hH, (if_neg (by assumption)).symm.trans (mox_r hsum)⟩
          | exact ⟨hH, (if_neg (Int32.not_lt.mpr (by assumption))).symm.trans (mox_r hsum)⟩
          | exact ⟨hH, (if_pos (Int32.not_le.mp (by assumption))).symm.trans (mox_r hsum)⟩
        exact W.iret (v := 0) hx hb hr (fun t_ ht_ hW_ => ⟨⟨0, SL, rfl, hpost, by rw [ht_]; exact hP, va_K.moved hW_.alike hK, hD⟩, hS.F ht_⟩) hS.2.2 (fk_get fk_cX12_moreOf_2 2 rfl)
      have hlt : k < C.length := Nat.lt_of_not_le (fun w => c_9 (by rw [show fA SL 12 h = nI C.length from (congrFun (hH.a (i := 12) (by decide)) _).trans h12]; exact (nI_leI (a := C.length) (b := k) (by omega) (by omega)).mpr w))
      obtain ⟨cc_, hck⟩ : ∃ c, C[k]? = some c := ⟨_, List.getElem?_eq_getElem hlt⟩
      obtain ⟨hc1, hc2, hc3, hc4, hc5⟩ := hcl k cc_ hck
      have hc1_ : fA SL 9 (10 * h + k) = nI cc_.1 := (congrFun (hH.a (i := 9) (by decide)) _).trans hc1
      refine lv_bipush (v := 10) hx hb (fk_get fk_cX12_moreOf_0 20 rfl) (by decide) ?_
      refine lv_aload_n hx hb (fk_get fk_cX12_moreOf_0 21 rfl) rfl (lv_at hl 2 rfl) ?_
      refine va_get (D := G.1) (ci := 14) (v := .int ((fF SL 0 3))) (C := RX12) (T := TX12) (N := 49) hx hb hT inX12 hown hK hP 0 (ix_at (by decide) (cR_0 G ad SL)) rfl 3 (by decide) (hT _ m5_104) (fun _ h9 => h9) rfl (fk_get fk_cX12_moreOf_0 22 rfl) ?_
      refine lv_imul hx hb (fk_get fk_cX12_moreOf_0 23 rfl) ?_
      refine lv_iload_n hx hb (fk_get fk_cX12_moreOf_0 24 rfl) rfl (lv_at hl 0 rfl) ?_
      refine lv_iadd hx hb (fk_get fk_cX12_moreOf_0 25 rfl) ?_
      rw [show ((10 * (fF SL 0 3)) + (nI k)) = (nI (10 * h + k)) from (n_add (n_mul rfl ((hH.2.2.1 3).trans hh)) rfl)]
      refine lv_istore (lv' := [(4, .int ((nI (10 * h + k)))), (3, .int ((nI k))), (2, .int (v)), (0, .ref (ad 0)), (1, .int (c))]) hx hb (fk_get fk_cX12_moreOf_0 26 rfl) hl (by decide) rfl (fun ls hl => ?_)
      refine lv_aload_n hx hb (fk_get fk_cX12_moreOf_0 27 rfl) rfl (lv_at hl 3 rfl) ?_
      refine va_get (D := G.1) (ci := 14) (v := .ref (ad 9)) (C := RX12) (T := TX12) (N := 49) hx hb hT inX12 hown hK hP 0 (ix_at (by decide) (cR_0 G ad SL)) rfl 21 (by decide) (hT _ m5_122) (fun _ h9 => h9) rfl (fk_get fk_cX12_moreOf_0 28 rfl) ?_
      refine lv_iload hx hb (fk_get fk_cX12_moreOf_0 29 rfl) (lv_at hl 0 rfl) ?_
      refine r_iald (f := fA SL 9) hx hb hK hP 9 0 (ix_at (by decide) (cR_clauseWhat G ad SL)) rfl ((10 * h + k)) (rfl) (by omega) (by decide) (fk_get fk_cX12_moreOf_0 30 rfl) ?_
      refine lv_iconst (v := 2) hx hb (fk_get fk_cX12_moreOf_0 31 rfl) (by decide) ?_
      refine lv_icmp_ge (tgt := 102) hx hb (fk_get fk_cX12_moreOf_1 0 rfl) (by decide) (fun c_11 => ?_) (fun c_11 => ?_)
      · have hq0_ : cc_.2.2 = none := by
          cases e_ : cc_.2.2 with
          | none => rfl
          | some x => exact absurd c_11 (by rw [hc1_]; exact fun q => absurd ((nI_leI (a := 2) (b := cc_.1) (by omega) (by omega)).mp q) (by have := (hc5 x e_).1; omega))
        refine lv_iinc (v := (nI (k + 1))) (lv' := [(3, .int ((nI (k + 1)))), (4, .int ((nI (10 * h + k)))), (2, .int (v)), (0, .ref (ad 0)), (1, .int (c))]) hx hb (fk_get fk_cX12_moreOf_1 27 rfl) hl (k := 1) rfl ((nI_1 k)) (by decide) rfl (fun ls hl => ?_)
        refine lv_goto (tgt := 14) hx hb (fk_get fk_cX12_moreOf_1 28 rfl) (by decide) ?_
        exact ih (k + 1) (v) (SL) _ _ ls (by omega) (by omega) ((by first | exact hH2 | exact hH)) ((by first | exact addc_s1 hck hI hq_ (by assumption) hw_ hc32_ | exact addc_s2 hck hI hq_ (by assumption) hw_ hc32_ | exact addc_s0 hck hI hq_ (by assumption) | exact addc_sn hck hI hq0_)) hP hD hS (lv_sub hl [0, 2, 3, 4] rfl)
      obtain ⟨q_, hq_, hw2_⟩ : ∃ x, cc_.2.2 = some x ∧ cc_.1 < 2 := by
        cases e_ : cc_.2.2 with
        | none => exact absurd (hc4 e_) (fun q => c_11 (by rw [hc1_]; exact (nI_leI (a := 2) (b := cc_.1) (by omega) (by omega)).mpr q))
        | some x => exact ⟨x, rfl, (hc5 x e_).1⟩
      have h11 := (hc5 q_ hq_).2
      obtain ⟨qe_, hqe_, hqz_, hq100_, hqe100_⟩ := hsay cc_ (List.mem_of_getElem? hck) q_ hq_
      obtain ⟨z2_, kk2_, hz2_, hk2_, h82_, h122_, hcl2_⟩ := hHOK.at hh hh6
      obtain ⟨a2_, ha2_, h112_, hOK2_⟩ := hcl2_ k (by have := (nI_eq (by omega) (by omega)).mp (h122_.symm.trans h12); omega) (Int32.not_le.mp (fun w => c_11 (by rw [hH.a (i := 9) (by decide)]; exact w)))
      have ez_ : z2_ = z := (nI_eq (by omega) (by omega)).mp (h82_.symm.trans h8)
      have ea_ : a2_ = q_.1 := (nI_eq (by omega) (by omega)).mp (h112_.symm.trans h11)
      rw [ez_, ea_] at hOK2_
      refine lv_aload_n hx hb (fk_get fk_cX12_moreOf_1 1 rfl) rfl (lv_at hl 3 rfl) ?_
      refine lv_iload_n hx hb (fk_get fk_cX12_moreOf_1 2 rfl) rfl (lv_at hl 4 rfl) ?_
      refine lv_aload_n hx hb (fk_get fk_cX12_moreOf_1 3 rfl) rfl (lv_at hl 3 rfl) ?_
      refine va_get (D := G.1) (ci := 14) (v := .ref (ad 11)) (C := RX12) (T := TX12) (N := 49) hx hb hT inX12 hown hK hP 0 (ix_at (by decide) (cR_0 G ad SL)) rfl 23 (by decide) (hT _ m5_124) (fun _ h9 => h9) rfl (fk_get fk_cX12_moreOf_1 4 rfl) ?_
      refine lv_iload hx hb (fk_get fk_cX12_moreOf_1 5 rfl) (lv_at hl 0 rfl) ?_
      refine r_iald (f := fA SL 11) hx hb hK hP 11 0 (ix_at (by decide) (cR_clauseAt G ad SL)) rfl ((10 * h + k)) (rfl) (by omega) (by decide) (fk_get fk_cX12_moreOf_1 6 rfl) ?_
      rw [show (fA SL 11 ((10 * h + k))) = (nI q_.1) from ((congrFun (hH.a (i := 11) (by decide)) _).trans h11)]
      have hFc := va_self hD hS hA
      refine va_calli (va_runV (As := [.int (c), .int ((nI q_.1))]) (rest := []) ⟨hx, hb, hml, hown, hT⟩ (c_holdsE l G ad SL H_5.size (h) (z) (q_.1) (j) (c) ((hH.2.2.1 3).trans hh) (hh6) ((congrFun (hH.a (i := 8) (by decide)) _).trans h8) (hz1) (by rw [hH.a (i := 7) (by decide)]; exact hOK2_) (hq100_) (ej) (hj)) (tV 2 hT m6_123 m6_125 mp_35 m1_17 m6_126 rfl rfl (by decide +kernel) ⟨Nat.le_of_ble_eq_true rfl, Nat.le_of_ble_eq_true rfl⟩) ⟨PcW_blind, va_recv hK hP (ci := 14) (q0 := 0) rfl (ix_at (by decide) (cR_0 G ad SL)), PcW_of hP hK hD _⟩ rfl rfl hl.1 rfl (lv_room (Nat.le_of_ble_eq_true rfl)) (fk_get fk_cX12_moreOf_1 7 rfl) ⟨Nat.zero_le _, Nat.zero_le _⟩) hS (fun q _ h => hFc q h) hFc (fun r_12 S_14 t_ H locs ht_ hvm_ hw_13 hB_ hz_ hk_ hS => ?_)
      obtain ⟨hP, -, hD1_⟩ := hB_
      rw [ht_] at hP
      have hD : va_D A (wR G ad S_14) := hD1_.weaken (fun k q _ h => hFc q.1 h)
      try dsimp only at hw_13
      obtain ⟨hH1, hr01⟩ := hw_13
      have hH2 := hH.trans hH1
      have hc32_ : fA S_14 10 (10 * h + k) = cc_.2.1 := (congrFun (hH2.a (i := 10) (by decide)) _).trans hc3
      have hc12_ : fA S_14 9 (10 * h + k) = nI cc_.1 := (congrFun (hH2.a (i := 9) (by decide)) _).trans hc1
      rw [hH.a (i := 7) (by decide), hτ, ho_said (ecr_c hH) hqe_ hqz_ (by omega)] at hr01
      subst hr01
      refine lv_if_eq (tgt := 102) hx hb (fk_get fk_cX12_moreOf_1 8 rfl) (by decide) (fun c_15 => ?_) (fun c_15 => ?_)
      · refine lv_iinc (v := (nI (k + 1))) (lv' := [(3, .int ((nI (k + 1)))), (4, .int ((nI (10 * h + k)))), (2, .int (v)), (0, .ref (ad 0)), (1, .int (c))]) hx hb (fk_get fk_cX12_moreOf_1 27 rfl) hl (k := 1) rfl ((nI_1 k)) (by decide) rfl (fun ls hl => ?_)
        refine lv_goto (tgt := 14) hx hb (fk_get fk_cX12_moreOf_1 28 rfl) (by decide) ?_
        exact ih (k + 1) (v) (S_14) _ _ ls (by omega) (by omega) ((by first | exact hH2 | exact hH)) ((by first | exact addc_s1 hck hI hq_ (by assumption) hw_ hc32_ | exact addc_s2 hck hI hq_ (by assumption) hw_ hc32_ | exact addc_s0 hck hI hq_ (by assumption) | exact addc_sn hck hI hq0_)) hP hD hS (lv_sub hl [0, 2, 3, 4] rfl)
      refine lv_iload_n hx hb (fk_get fk_cX12_moreOf_1 9 rfl) rfl (lv_at hl 2 rfl) ?_
      refine lv_aload_n hx hb (fk_get fk_cX12_moreOf_1 10 rfl) rfl (lv_at hl 3 rfl) ?_
      refine va_get (D := G.1) (ci := 14) (v := .ref (ad 9)) (C := RX12) (T := TX12) (N := 49) hx hb hT inX12 hown hK hP 0 (ix_at (by decide) (cR_0 G ad S_14)) rfl 21 (by decide) (hT _ m5_122) (fun _ h9 => h9) rfl (fk_get fk_cX12_moreOf_1 11 rfl) ?_
      refine lv_iload hx hb (fk_get fk_cX12_moreOf_1 12 rfl) (lv_at hl 0 rfl) ?_
      refine r_iald (f := fA S_14 9) hx hb hK hP 9 0 (ix_at (by decide) (cR_clauseWhat G ad S_14)) rfl ((10 * h + k)) (rfl) (by omega) (by decide) (fk_get fk_cX12_moreOf_1 13 rfl) ?_
      refine lv_if_ne (tgt := 92) hx hb (fk_get fk_cX12_moreOf_1 14 rfl) (by decide) (fun c_16 => ?_) (fun c_16 => ?_)
      · have hw_ : ¬ cc_.1 = 0 := fun q => c_16 (hc12_.trans (congrArg nI q))
        refine lv_aload_n hx hb (fk_get fk_cX12_moreOf_1 20 rfl) rfl (lv_at hl 3 rfl) ?_
        refine va_get (D := G.1) (ci := 14) (v := .ref (ad 10)) (C := RX12) (T := TX12) (N := 49) hx hb hT inX12 hown hK hP 0 (ix_at (by decide) (cR_0 G ad S_14)) rfl 22 (by decide) (hT _ m5_123) (fun _ h9 => h9) rfl (fk_get fk_cX12_moreOf_1 21 rfl) ?_
        refine lv_iload hx hb (fk_get fk_cX12_moreOf_1 22 rfl) (lv_at hl 0 rfl) ?_
        refine r_iald (f := fA S_14 10) hx hb hK hP 10 0 (ix_at (by decide) (cR_clauseN G ad S_14)) rfl ((10 * h + k)) (rfl) (by omega) (by decide) (fk_get fk_cX12_moreOf_1 23 rfl) ?_
        refine lv_ineg hx hb (fk_get fk_cX12_moreOf_1 24 rfl) ?_
        refine lv_iadd hx hb (fk_get fk_cX12_moreOf_1 25 rfl) ?_
        refine lv_istore_n (lv' := [(2, .int ((v + (-(fA S_14 10 ((10 * h + k))))))), (4, .int ((nI (10 * h + k)))), (3, .int ((nI k))), (0, .ref (ad 0)), (1, .int (c))]) hx hb (fk_get fk_cX12_moreOf_1 26 rfl) rfl hl (by decide) rfl (fun ls hl => ?_)
        refine lv_iinc (v := (nI (k + 1))) (lv' := [(3, .int ((nI (k + 1)))), (2, .int ((v + (-(fA S_14 10 ((10 * h + k))))))), (4, .int ((nI (10 * h + k)))), (0, .ref (ad 0)), (1, .int (c))]) hx hb (fk_get fk_cX12_moreOf_1 27 rfl) hl (k := 2) rfl ((nI_1 k)) (by decide) rfl (fun ls hl => ?_)
        refine lv_goto (tgt := 14) hx hb (fk_get fk_cX12_moreOf_1 28 rfl) (by decide) ?_
        exact ih (k + 1) ((v + (-(fA S_14 10 ((10 * h + k)))))) (S_14) _ _ ls (by omega) (by omega) ((by first | exact hH2 | exact hH)) ((by first | exact addc_s1 hck hI hq_ (by assumption) hw_ hc32_ | exact addc_s2 hck hI hq_ (by assumption) hw_ hc32_ | exact addc_s0 hck hI hq_ (by assumption) | exact addc_sn hck hI hq0_)) hP hD hS (lv_sub hl [0, 1, 3, 4] rfl)
      have hw_ : cc_.1 = 0 := (nI_eq (by omega) (by omega)).mp (hc12_.symm.trans (by first | exact c_16 | exact Decidable.not_not.mp c_16))
      refine lv_aload_n hx hb (fk_get fk_cX12_moreOf_1 15 rfl) rfl (lv_at hl 3 rfl) ?_
      refine va_get (D := G.1) (ci := 14) (v := .ref (ad 10)) (C := RX12) (T := TX12) (N := 49) hx hb hT inX12 hown hK hP 0 (ix_at (by decide) (cR_0 G ad S_14)) rfl 22 (by decide) (hT _ m5_123) (fun _ h9 => h9) rfl (fk_get fk_cX12_moreOf_1 16 rfl) ?_
      refine lv_iload hx hb (fk_get fk_cX12_moreOf_1 17 rfl) (lv_at hl 0 rfl) ?_
      refine r_iald (f := fA S_14 10) hx hb hK hP 10 0 (ix_at (by decide) (cR_clauseN G ad S_14)) rfl ((10 * h + k)) (rfl) (by omega) (by decide) (fk_get fk_cX12_moreOf_1 18 rfl) ?_
      refine lv_goto (tgt := 100) hx hb (fk_get fk_cX12_moreOf_1 19 rfl) (by decide) ?_
      refine lv_iadd hx hb (fk_get fk_cX12_moreOf_1 25 rfl) ?_
      refine lv_istore_n (lv' := [(2, .int ((v + (fA S_14 10 ((10 * h + k)))))), (4, .int ((nI (10 * h + k)))), (3, .int ((nI k))), (0, .ref (ad 0)), (1, .int (c))]) hx hb (fk_get fk_cX12_moreOf_1 26 rfl) rfl hl (by decide) rfl (fun ls hl => ?_)
      refine lv_iinc (v := (nI (k + 1))) (lv' := [(3, .int ((nI (k + 1)))), (2, .int ((v + (fA S_14 10 ((10 * h + k)))))), (4, .int ((nI (10 * h + k)))), (0, .ref (ad 0)), (1, .int (c))]) hx hb (fk_get fk_cX12_moreOf_1 27 rfl) hl (k := 2) rfl ((nI_1 k)) (by decide) rfl (fun ls hl => ?_)
      refine lv_goto (tgt := 14) hx hb (fk_get fk_cX12_moreOf_1 28 rfl) (by decide) ?_
      exact ih (k + 1) ((v + (fA S_14 10 ((10 * h + k))))) (S_14) _ _ ls (by omega) (by omega) ((by first | exact hH2 | exact hH)) ((by first | exact addc_s1 hck hI hq_ (by assumption) hw_ hc32_ | exact addc_s2 hck hI hq_ (by assumption) hw_ hc32_ | exact addc_s0 hck hI hq_ (by assumption) | exact addc_sn hck hI hq0_)) hP hD hS (lv_sub hl [0, 1, 3, 4] rfl)
  exact lp_3 (C.length + 1) (0) ((((fF S 0 2) + (fA S 1 (12 * j + 3))))) (S) _ _ ls (by omega) (by omega) (HFr.rf S) (rfl) hP hD hS (lv_sub hl [0, 1, 2, 3] rfl)
theorem no_t {P : Prop} [Decidable P] {r : Int32} (h : r = if P then 1 else 0) (k : ¬ r = 0) : P := by
  by_cases q : P
  · exact q
  · rw [if_neg q] at h
    exact absurd h k
theorem no_f {P : Prop} [Decidable P] {r : Int32} (h : r = if P then 1 else 0) (k : r = 0) : ¬ P := fun q => by
  rw [if_pos q, k] at h
  exact absurd h (by decide)
theorem gR_H {S T : FS} (h : HFr S T) (j : Nat) : gR T j = gR S j := by
  unfold gR
  rw [h.a (i := 1) (by decide)]
/-- customer j's twelve numbers are f's -/
def VS (T : FS) (j : Nat) (f : Nat → Int32) : Prop := ∀ k, k < 12 → fA T 1 (12 * j + k) = f k
theorem VS.put {T : FS} {j : Nat} {f : Nat → Int32} (h : VS T j f) (k : Nat) (v : Int32) : VS (setA T 1 (upd (fA T 1) (12 * j + k) v)) j (upd f k v) := fun i hi => by
  rw [fA_setA, if_pos rfl]
  by_cases q : i = k
  · subst q
    rw [pk_us, pk_us]
  · rw [pk_un (by omega), pk_un q]
    exact h i hi
theorem VS.p7 {T : FS} {j : Nat} {f : Nat → Int32} {v : Int32} {P : Prop} [Decidable P] (h : VS T j f) (hp : P) : VS (setA T 1 (upd (fA T 1) (12 * j + 7) 1)) j (upd f 7 (if P then 1 else v)) := by
  rw [if_pos hp]
  exact h.put 7 1
theorem VS.same {T : FS} {j k : Nat} {f : Nat → Int32} {v : Int32} (h : VS T j f) (e : v = f k) : VS T j (upd f k v) := fun i hi => by
  by_cases q : i = k
  · subst q
    rw [pk_us, e]
    exact h i hi
  · rw [pk_un q]
    exact h i hi
theorem cl_of {m x v : Int32} (h : (x < 0 ∧ v = 0) ∨ (¬ x < 0 ∧ x ≤ m ∧ v = x) ∨ (¬ x < 0 ∧ ¬ x ≤ m ∧ v = m)) : v = cl m x := by
  unfold cl
  rcases h with ⟨a, b⟩ | ⟨a, b, c⟩ | ⟨a, b, c⟩
  · rw [if_pos a, b]
  · rw [if_neg a, if_pos b, c]
  · rw [if_neg a, if_neg b, c]
theorem vis_u {mi ln mo : Int32} {g : Nat → Int32} : visF mi ln mo g = upd (upd (upd (upd (upd g 3 (cl 20 (g 3 + (if letF g < mo then -2 else ln)))) 5 (nsF mo g)) 7 (if letF g < mo ∧ g 0 = 5 ∧ 3 ≤ nsF mo g then 1 else g 7)) 4 (cl 99 (boF mo g - g 2))) 6 (if ¬ mi = 0 ∨ g 6 < 9999 then g 6 + 1 else g 6) := by
  funext k
  unfold visF
  by_cases c6 : k = 6
  · subst c6
    rw [pk_us]
    rfl
  · rw [pk_un c6]
    by_cases c4 : k = 4
    · subst c4
      rw [pk_us]
      rfl
    · rw [pk_un c4]
      by_cases c7 : k = 7
      · subst c7
        rw [pk_us]
        rfl
      · rw [pk_un c7]
        by_cases c5 : k = 5
        · subst c5
          rw [pk_us]
          rfl
        · rw [pk_un c5]
          by_cases c3 : k = 3
          · subst c3
            rw [pk_us]
            rfl
          · rw [pk_un c3, if_neg c3, if_neg c4, if_neg c5, if_neg c6, if_neg c7]
theorem ns_n {mo : Int32} {g : Nat → Int32} (h : ¬ letF g < mo ∨ 99 ≤ g 5) : nsF mo g = g 5 := if_neg (fun q => h.elim (fun w => w q.1) (fun w => absurd q.2 (Int32.not_lt.mpr w)))
theorem ns_y {mo : Int32} {g : Nat → Int32} (h : letF g < mo) (k : g 5 < 99) : nsF mo g = g 5 + 1 := if_pos ⟨h, k⟩
theorem vs_6 {T : FS} {j x : Nat} {g f : Nat → Int32} {mi : Int32} (h : VS T j f) (hx : g 6 = nI x) (hx3 : x < 1000000) (hc : ¬ mi = 0 ∨ x < 9999) : VS (setA T 1 (upd (fA T 1) (12 * j + 6) (nI (x + 1)))) j (upd f 6 (if ¬ mi = 0 ∨ g 6 < 9999 then g 6 + 1 else g 6)) := by
  rw [if_pos (hc.imp id (fun q => by rw [hx]; exact (nI_ltI (a := x) (b := 9999) (by omega) (by omega)).mpr q)), hx, nI_1]
  exact h.put 6 _
theorem vs_n {T : FS} {j x : Nat} {g f : Nat → Int32} {mi : Int32} (h : VS T j f) (hx : g 6 = nI x) (hx3 : x < 1000000) (hm : mi = 0) (hc : 9999 ≤ nI x) (e : g 6 = f 6) : VS T j (upd f 6 (if ¬ mi = 0 ∨ g 6 < 9999 then g 6 + 1 else g 6)) := by
  rw [if_neg (fun q => q.elim (fun w => w hm) (fun w => by rw [hx] at w; exact absurd w (Int32.not_lt.mpr hc)))]
  exact h.same e
set_option maxHeartbeats 800000 in
set_option maxRecDepth 100000 in
theorem c_asksOfE (l : Launch) (G : GG) (ad : Nat → Nat) (S : FS) (sz : Nat) (c : Int32) (j x : Nat) (ej : c = nI j) (hj : j < 6) (hx6 : fA S 1 (12 * j + 6) = nI x) (hx30 : x < 1000000) : Met l yX12_asksOf (Cond.code yX12_asksOf cX12_asksOf 4 (some .int) :: TBL) ({ frames := 3, cells := 0, slots := 0, locals := 90 } : Room) (PcW G (wR G ad S) sz [.ref (ad 0), .int (c)]) (vp_Si (fun (r : Int32) => r = askF (gR S j))) 0 0 (fun _ => False) := by
  refine Met.ofW (cc := cX12_asksOf) (maxL := 4) (ret := (some .int)) (by decide) rfl ?_
  intro p e s m args below meth c₀ s₁ B hml hv
  obtain ⟨rfl, hsz, hP, hK, hD0⟩ := hv
  have hx := B.exec
  have hb := B.bytes
  have hr := B.returns
  have hT : ∀ w ∈ TBL, w.before ([.ref (ad 0), .int (c)] : List Value).toArray s = true := fun w h => atoms_spec (ws := Cond.code yX12_asksOf cX12_asksOf 4 (some .int) :: TBL) B.pre w (List.mem_cons_of_mem _ h)
  have hown : s.vm.findClass "LittleMoreModel" = some m.cls := findClass_of_methodNamed B.named
  have hlocks := B.notSynchronized
  have hD := hD0
  have hP : va_P G.1 vwCl (wR G ad S) s.heap := hP
  have hl := lv_entry ([.ref (ad 0), .int (c)]) (n := 4) (Nat.le_of_ble_eq_true rfl)
  rw [lg_entry_eq]
  generalize (lg_sl ([.ref (ad 0), .int (c)]) ++ List.replicate (4 - (lg_sl ([.ref (ad 0), .int (c)])).length) Slot.unset).toArray = ls at hl ⊢
  have hl : lv_has ls 4 [(0, .ref (ad 0)), (1, .int (c))] := hl
  refine W_abs (fun Q hQ => ?_)
  generalize ([.ref (ad 0), .int (c)] : List Value).toArray = args at hT hQ ⊢
  refine lv_aload_n hx hb (fk_get fk_cX12_asksOf_0 0 rfl) rfl (lv_at hl 0 rfl) ?_
  refine lv_iload_n hx hb (fk_get fk_cX12_asksOf_0 1 rfl) rfl (lv_at hl 1 rfl) ?_
  refine lv_iconst (v := 2) hx hb (fk_get fk_cX12_asksOf_0 2 rfl) (by decide) ?_
  refine vp_callSi (W.runV (As := [.int (c), .int (2)]) (rest := []) ⟨hx, hb, hml, hown, hT⟩ (c_of0 l G ad S s.heap.size (c) (2) (((12 * j) + 2)) (n_add (n_mul (rfl) (ej)) (rfl)) (by omega)) (tV 2 hT m6_119 m6_121 mp_34 m1_17 m6_122 rfl rfl (by decide +kernel) ⟨Nat.le_of_ble_eq_true rfl, Nat.le_of_ble_eq_true rfl⟩) ⟨PcW_blind, va_recv hK hP (ci := 14) (q0 := 0) rfl (ix_at (by decide) (cR_0 G ad S)), PcW_of hP hK hD _⟩ rfl rfl hl.1 rfl (lv_room (Nat.le_of_ble_eq_true rfl)) (fk_get fk_cX12_asksOf_0 3 rfl) ⟨Nat.zero_le _, Nat.zero_le _⟩) (fun r_1 hw_2 => ?_)
  try dsimp only at hw_2
  subst hw_2
  refine lv_istore_n (lv' := [(2, .int ((fA S 1 (12 * j + 2)))), (0, .ref (ad 0)), (1, .int (c))]) hx hb (fk_get fk_cX12_asksOf_0 4 rfl) rfl hl (by decide) rfl (fun ls hl => ?_)
  refine lv_iload_n hx hb (fk_get fk_cX12_asksOf_0 5 rfl) rfl (lv_at hl 0 rfl) ?_
  refine lv_aload_n hx hb (fk_get fk_cX12_asksOf_0 6 rfl) rfl (lv_at hl 1 rfl) ?_
  refine lv_iload_n hx hb (fk_get fk_cX12_asksOf_0 7 rfl) rfl (lv_at hl 2 rfl) ?_
  refine lv_iconst (v := 4) hx hb (fk_get fk_cX12_asksOf_0 8 rfl) (by decide) ?_
  refine vp_callSi (W.runV (As := [.int (c), .int (4)]) (rest := [.int ((fA S 1 (12 * j + 2)))]) ⟨hx, hb, hml, hown, hT⟩ (c_of0 l G ad S s.heap.size (c) (4) (((12 * j) + 4)) (n_add (n_mul (rfl) (ej)) (rfl)) (by omega)) (tV 2 hT m6_119 m6_121 mp_34 m1_17 m6_122 rfl rfl (by decide +kernel) ⟨Nat.le_of_ble_eq_true rfl, Nat.le_of_ble_eq_true rfl⟩) ⟨PcW_blind, va_recv hK hP (ci := 14) (q0 := 0) rfl (ix_at (by decide) (cR_0 G ad S)), PcW_of hP hK hD _⟩ rfl rfl hl.1 rfl (lv_room (Nat.le_of_ble_eq_true rfl)) (fk_get fk_cX12_asksOf_0 9 rfl) ⟨Nat.zero_le _, Nat.zero_le _⟩) (fun r_3 hw_4 => ?_)
  try dsimp only at hw_4
  subst hw_4
  refine lv_isub hx hb (fk_get fk_cX12_asksOf_0 10 rfl) ?_
  refine lv_iconst (v := 1) hx hb (fk_get fk_cX12_asksOf_0 11 rfl) (by decide) ?_
  refine vp_callSi (W.runS (As := [.int (((fA S 1 (12 * j + 2)) - (fA S 1 (12 * j + 4)))), .int (1)]) (rest := []) ⟨hx, hb, hml, hown, hT⟩ (c_atLeast l (((fA S 1 (12 * j + 2)) - (fA S 1 (12 * j + 4)))) (1) ) (tS 2 hT m6_147 m6_148 m1_17 m6_149 rfl rfl (by decide +kernel) ⟨Nat.le_of_ble_eq_true rfl, Nat.le_of_ble_eq_true rfl⟩) ⟨PcN_blind, PcN_of _ _ _⟩ rfl rfl hl.1 rfl (lv_room (Nat.le_of_ble_eq_true rfl)) (fk_get fk_cX12_asksOf_0 12 rfl) ⟨Nat.zero_le _, Nat.zero_le _⟩) (fun r_5 hw_6 => ?_)
  try dsimp only at hw_6
  subst hw_6
  refine lv_istore_n (lv' := [(3, .int ((mx 1 (fA S 1 (12 * j + 2) - fA S 1 (12 * j + 4))))), (2, .int ((fA S 1 (12 * j + 2)))), (0, .ref (ad 0)), (1, .int (c))]) hx hb (fk_get fk_cX12_asksOf_0 13 rfl) rfl hl (by decide) rfl (fun ls hl => ?_)
  refine lv_aload_n hx hb (fk_get fk_cX12_asksOf_0 14 rfl) rfl (lv_at hl 2 rfl) ?_
  refine lv_iload_n hx hb (fk_get fk_cX12_asksOf_0 15 rfl) rfl (lv_at hl 3 rfl) ?_
  refine lv_iconst (v := 0) hx hb (fk_get fk_cX12_asksOf_0 16 rfl) (by decide) ?_
  refine vp_callSi (W.runV (As := [.int (c), .int (0)]) (rest := []) ⟨hx, hb, hml, hown, hT⟩ (c_of0 l G ad S s.heap.size (c) (0) (((12 * j) + 0)) (n_add (n_mul (rfl) (ej)) (rfl)) (by omega)) (tV 2 hT m6_119 m6_121 mp_34 m1_17 m6_122 rfl rfl (by decide +kernel) ⟨Nat.le_of_ble_eq_true rfl, Nat.le_of_ble_eq_true rfl⟩) ⟨PcW_blind, va_recv hK hP (ci := 14) (q0 := 0) rfl (ix_at (by decide) (cR_0 G ad S)), PcW_of hP hK hD _⟩ rfl rfl hl.1 rfl (lv_room (Nat.le_of_ble_eq_true rfl)) (fk_get fk_cX12_asksOf_0 17 rfl) ⟨Nat.zero_le _, Nat.zero_le _⟩) (fun r_7 hw_8 => ?_)
  try dsimp only at hw_8
  subst hw_8
  by_cases c_9 : (fA S 1 (12 * j + 0)) = (1 : Int32)
  · refine lv_tableIn (off := 38) (tgt := 64) hx hb (dk_get dk_cX12_asksOf_0 0 rfl) (by rw [c_9]; decide) (by rw [c_9]; decide) (by rw [c_9]; rfl) (by decide) ?_
    refine lv_iload_n hx hb (fk_get fk_cX12_asksOf_0 18 rfl) rfl (lv_at hl 0 rfl) ?_
    subst hQ
    have hpost : ((mx 1 (fA S 1 (12 * j + 2) - fA S 1 (12 * j + 4))) : Int32) = askF (gR S j) := by
      first | exact (ask_1 (g := gR S j) (by assumption)).symm | exact (ask_3 (g := gR S j) (by assumption)).symm | exact (ask_4 (g := gR S j) (by assumption)).symm | exact (ask_6 (g := gR S j) (x := x) (by assumption) hx6 (by omega)).symm | (have q6_ := (ask_6 (g := gR S j) (x := x) (by assumption) hx6 (by omega)).symm; rw [gR_k (k := 8 + x % 4) (by omega), ← Nat.add_assoc] at q6_; exact q6_) | exact (ask_c (g := gR S j) (by assumption) (Or.inl rfl)).symm | exact (ask_c (g := gR S j) (by assumption) (Or.inr rfl)).symm | exact (ask_d (g := gR S j) (by assumption) (by assumption) (by assumption) (by assumption)).symm
    exact W.iret (v := (mx 1 (fA S 1 (12 * j + 2) - fA S 1 (12 * j + 4)))) hx hb hr (fun t_ ht_ hW_ => ⟨(mx 1 (fA S 1 (12 * j + 2) - fA S 1 (12 * j + 4))), rfl, hpost, ht_⟩) (fun q h => by cases h) (fk_get fk_cX12_asksOf_0 19 rfl)
  by_cases c_10 : (fA S 1 (12 * j + 0)) = (2 : Int32)
  · refine lv_tableIn (off := 79) (tgt := 105) hx hb (dk_get dk_cX12_asksOf_0 0 rfl) (by rw [c_10]; decide) (by rw [c_10]; decide) (by rw [c_10]; rfl) (by decide) ?_
    refine lv_iload_n hx hb (fk_get fk_cX12_asksOf_1 18 rfl) rfl (lv_at hl 1 rfl) ?_
    subst hQ
    have hpost : ((fA S 1 (12 * j + 2)) : Int32) = askF (gR S j) := by
      first | exact (ask_1 (g := gR S j) (by assumption)).symm | exact (ask_3 (g := gR S j) (by assumption)).symm | exact (ask_4 (g := gR S j) (by assumption)).symm | exact (ask_6 (g := gR S j) (x := x) (by assumption) hx6 (by omega)).symm | (have q6_ := (ask_6 (g := gR S j) (x := x) (by assumption) hx6 (by omega)).symm; rw [gR_k (k := 8 + x % 4) (by omega), ← Nat.add_assoc] at q6_; exact q6_) | exact (ask_c (g := gR S j) (by assumption) (Or.inl rfl)).symm | exact (ask_c (g := gR S j) (by assumption) (Or.inr rfl)).symm | exact (ask_d (g := gR S j) (by assumption) (by assumption) (by assumption) (by assumption)).symm
    exact W.iret (v := (fA S 1 (12 * j + 2))) hx hb hr (fun t_ ht_ hW_ => ⟨(fA S 1 (12 * j + 2)), rfl, hpost, ht_⟩) (fun q h => by cases h) (fk_get fk_cX12_asksOf_1 19 rfl)
  by_cases c_11 : (fA S 1 (12 * j + 0)) = (3 : Int32)
  · refine lv_tableIn (off := 40) (tgt := 66) hx hb (dk_get dk_cX12_asksOf_0 0 rfl) (by rw [c_11]; decide) (by rw [c_11]; decide) (by rw [c_11]; rfl) (by decide) ?_
    refine lv_iload_n hx hb (fk_get fk_cX12_asksOf_0 20 rfl) rfl (lv_at hl 1 rfl) ?_
    refine lv_iconst (v := 2) hx hb (fk_get fk_cX12_asksOf_0 21 rfl) (by decide) ?_
    refine lv_idiv hx hb (fk_get fk_cX12_asksOf_0 22 rfl) (by decide) ?_
    subst hQ
    have hpost : (((fA S 1 (12 * j + 2)) / 2) : Int32) = askF (gR S j) := by
      first | exact (ask_1 (g := gR S j) (by assumption)).symm | exact (ask_3 (g := gR S j) (by assumption)).symm | exact (ask_4 (g := gR S j) (by assumption)).symm | exact (ask_6 (g := gR S j) (x := x) (by assumption) hx6 (by omega)).symm | (have q6_ := (ask_6 (g := gR S j) (x := x) (by assumption) hx6 (by omega)).symm; rw [gR_k (k := 8 + x % 4) (by omega), ← Nat.add_assoc] at q6_; exact q6_) | exact (ask_c (g := gR S j) (by assumption) (Or.inl rfl)).symm | exact (ask_c (g := gR S j) (by assumption) (Or.inr rfl)).symm | exact (ask_d (g := gR S j) (by assumption) (by assumption) (by assumption) (by assumption)).symm
    exact W.iret (v := ((fA S 1 (12 * j + 2)) / 2)) hx hb hr (fun t_ ht_ hW_ => ⟨((fA S 1 (12 * j + 2)) / 2), rfl, hpost, ht_⟩) (fun q h => by cases h) (fk_get fk_cX12_asksOf_0 23 rfl)
  by_cases c_12 : (fA S 1 (12 * j + 0)) = (4 : Int32)
  · refine lv_tableIn (off := 44) (tgt := 70) hx hb (dk_get dk_cX12_asksOf_0 0 rfl) (by rw [c_12]; decide) (by rw [c_12]; decide) (by rw [c_12]; rfl) (by decide) ?_
    refine lv_iload_n hx hb (fk_get fk_cX12_asksOf_0 24 rfl) rfl (lv_at hl 0 rfl) ?_
    refine lv_iconst (v := 2) hx hb (fk_get fk_cX12_asksOf_0 25 rfl) (by decide) ?_
    refine lv_isub hx hb (fk_get fk_cX12_asksOf_0 26 rfl) ?_
    refine lv_iconst (v := 1) hx hb (fk_get fk_cX12_asksOf_0 27 rfl) (by decide) ?_
    refine vp_callSi (W.runS (As := [.int (((mx 1 (fA S 1 (12 * j + 2) - fA S 1 (12 * j + 4))) - 2)), .int (1)]) (rest := []) ⟨hx, hb, hml, hown, hT⟩ (c_atLeast l (((mx 1 (fA S 1 (12 * j + 2) - fA S 1 (12 * j + 4))) - 2)) (1) ) (tS 2 hT m6_147 m6_148 m1_17 m6_149 rfl rfl (by decide +kernel) ⟨Nat.le_of_ble_eq_true rfl, Nat.le_of_ble_eq_true rfl⟩) ⟨PcN_blind, PcN_of _ _ _⟩ rfl rfl hl.1 rfl (lv_room (Nat.le_of_ble_eq_true rfl)) (fk_get fk_cX12_asksOf_0 28 rfl) ⟨Nat.zero_le _, Nat.zero_le _⟩) (fun r_13 hw_14 => ?_)
    try dsimp only at hw_14
    subst hw_14
    subst hQ
    have hpost : ((mx 1 (mx 1 (fA S 1 (12 * j + 2) - fA S 1 (12 * j + 4)) - 2)) : Int32) = askF (gR S j) := by
      first | exact (ask_1 (g := gR S j) (by assumption)).symm | exact (ask_3 (g := gR S j) (by assumption)).symm | exact (ask_4 (g := gR S j) (by assumption)).symm | exact (ask_6 (g := gR S j) (x := x) (by assumption) hx6 (by omega)).symm | (have q6_ := (ask_6 (g := gR S j) (x := x) (by assumption) hx6 (by omega)).symm; rw [gR_k (k := 8 + x % 4) (by omega), ← Nat.add_assoc] at q6_; exact q6_) | exact (ask_c (g := gR S j) (by assumption) (Or.inl rfl)).symm | exact (ask_c (g := gR S j) (by assumption) (Or.inr rfl)).symm | exact (ask_d (g := gR S j) (by assumption) (by assumption) (by assumption) (by assumption)).symm
    exact W.iret (v := (mx 1 (mx 1 (fA S 1 (12 * j + 2) - fA S 1 (12 * j + 4)) - 2))) hx hb hr (fun t_ ht_ hW_ => ⟨(mx 1 (mx 1 (fA S 1 (12 * j + 2) - fA S 1 (12 * j + 4)) - 2)), rfl, hpost, ht_⟩) (fun q h => by cases h) (fk_get fk_cX12_asksOf_0 29 rfl)
  by_cases c_15 : (fA S 1 (12 * j + 0)) = (5 : Int32)
  · refine lv_tableIn (off := 79) (tgt := 105) hx hb (dk_get dk_cX12_asksOf_0 0 rfl) (by rw [c_15]; decide) (by rw [c_15]; decide) (by rw [c_15]; rfl) (by decide) ?_
    refine lv_iload_n hx hb (fk_get fk_cX12_asksOf_1 18 rfl) rfl (lv_at hl 1 rfl) ?_
    subst hQ
    have hpost : ((fA S 1 (12 * j + 2)) : Int32) = askF (gR S j) := by
      first | exact (ask_1 (g := gR S j) (by assumption)).symm | exact (ask_3 (g := gR S j) (by assumption)).symm | exact (ask_4 (g := gR S j) (by assumption)).symm | exact (ask_6 (g := gR S j) (x := x) (by assumption) hx6 (by omega)).symm | (have q6_ := (ask_6 (g := gR S j) (x := x) (by assumption) hx6 (by omega)).symm; rw [gR_k (k := 8 + x % 4) (by omega), ← Nat.add_assoc] at q6_; exact q6_) | exact (ask_c (g := gR S j) (by assumption) (Or.inl rfl)).symm | exact (ask_c (g := gR S j) (by assumption) (Or.inr rfl)).symm | exact (ask_d (g := gR S j) (by assumption) (by assumption) (by assumption) (by assumption)).symm
    exact W.iret (v := (fA S 1 (12 * j + 2))) hx hb hr (fun t_ ht_ hW_ => ⟨(fA S 1 (12 * j + 2)), rfl, hpost, ht_⟩) (fun q h => by cases h) (fk_get fk_cX12_asksOf_1 19 rfl)
  by_cases c_16 : (fA S 1 (12 * j + 0)) = (6 : Int32)
  · refine lv_tableIn (off := 52) (tgt := 78) hx hb (dk_get dk_cX12_asksOf_0 0 rfl) (by rw [c_16]; decide) (by rw [c_16]; decide) (by rw [c_16]; rfl) (by decide) ?_
    refine lv_iload_n hx hb (fk_get fk_cX12_asksOf_0 30 rfl) rfl (lv_at hl 1 rfl) ?_
    refine lv_iconst (v := 2) hx hb (fk_get fk_cX12_asksOf_0 31 rfl) (by decide) ?_
    refine lv_idiv hx hb (fk_get fk_cX12_asksOf_1 0 rfl) (by decide) ?_
    refine lv_aload_n hx hb (fk_get fk_cX12_asksOf_1 1 rfl) rfl (lv_at hl 2 rfl) ?_
    refine va_get (D := G.1) (ci := 14) (v := .ref (ad 1)) (C := RX12) (T := TX12) (N := 49) hx hb hT inX12 hown hK hP 0 (ix_at (by decide) (cR_0 G ad S)) rfl 0 (by decide) (hT _ m5_101) (fun _ h9 => h9) rfl (fk_get fk_cX12_asksOf_1 2 rfl) ?_
    refine lv_bipush (v := 12) hx hb (fk_get fk_cX12_asksOf_1 3 rfl) (by decide) ?_
    refine lv_iload_n hx hb (fk_get fk_cX12_asksOf_1 4 rfl) rfl (lv_at hl 3 rfl) ?_
    refine lv_imul hx hb (fk_get fk_cX12_asksOf_1 5 rfl) ?_
    refine lv_bipush (v := 8) hx hb (fk_get fk_cX12_asksOf_1 6 rfl) (by decide) ?_
    refine lv_iadd hx hb (fk_get fk_cX12_asksOf_1 7 rfl) ?_
    refine lv_aload_n hx hb (fk_get fk_cX12_asksOf_1 8 rfl) rfl (lv_at hl 2 rfl) ?_
    refine lv_iload_n hx hb (fk_get fk_cX12_asksOf_1 9 rfl) rfl (lv_at hl 3 rfl) ?_
    refine lv_bipush (v := 6) hx hb (fk_get fk_cX12_asksOf_1 10 rfl) (by decide) ?_
    refine vp_callSi (W.runV (As := [.int (c), .int (6)]) (rest := [.int (((12 * c) + 8)), .ref (ad 1), .int (((fA S 1 (12 * j + 2)) / 2))]) ⟨hx, hb, hml, hown, hT⟩ (c_of0 l G ad S s.heap.size (c) (6) (((12 * j) + 6)) (n_add (n_mul (rfl) (ej)) (rfl)) (by omega)) (tV 2 hT m6_119 m6_121 mp_34 m1_17 m6_122 rfl rfl (by decide +kernel) ⟨Nat.le_of_ble_eq_true rfl, Nat.le_of_ble_eq_true rfl⟩) ⟨PcW_blind, va_recv hK hP (ci := 14) (q0 := 0) rfl (ix_at (by decide) (cR_0 G ad S)), PcW_of hP hK hD _⟩ rfl rfl hl.1 rfl (lv_room (Nat.le_of_ble_eq_true rfl)) (fk_get fk_cX12_asksOf_1 11 rfl) ⟨Nat.zero_le _, Nat.zero_le _⟩) (fun r_17 hw_18 => ?_)
    try dsimp only at hw_18
    rw [hx6] at hw_18
    subst hw_18
    refine lv_iconst (v := 4) hx hb (fk_get fk_cX12_asksOf_1 12 rfl) (by decide) ?_
    refine lv_irem hx hb (fk_get fk_cX12_asksOf_1 13 rfl) (by decide) ?_
    rw [show ((nI x) - (nI x) / 4 * 4) = (nI (x % 4)) from (pk_rem (a := x) (d := 4) (by omega) (by omega) (by omega))]
    refine lv_iadd hx hb (fk_get fk_cX12_asksOf_1 14 rfl) ?_
    refine r_iald (f := fA S 1) hx hb hK hP 1 0 (ix_at (by decide) (cR_s G ad S)) rfl ((((12 * j) + 8) + (x % 4))) (n_add (n_add (n_mul (rfl) (ej)) (rfl)) (rfl)) (by omega) (by decide) (fk_get fk_cX12_asksOf_1 15 rfl) ?_
    refine lv_iadd hx hb (fk_get fk_cX12_asksOf_1 16 rfl) ?_
    subst hQ
    have hpost : ((((fA S 1 (12 * j + 2)) / 2) + (fA S 1 ((((12 * j) + 8) + (x % 4))))) : Int32) = askF (gR S j) := by
      first | exact (ask_1 (g := gR S j) (by assumption)).symm | exact (ask_3 (g := gR S j) (by assumption)).symm | exact (ask_4 (g := gR S j) (by assumption)).symm | exact (ask_6 (g := gR S j) (x := x) (by assumption) hx6 (by omega)).symm | (have q6_ := (ask_6 (g := gR S j) (x := x) (by assumption) hx6 (by omega)).symm; rw [gR_k (k := 8 + x % 4) (by omega), ← Nat.add_assoc] at q6_; exact q6_) | exact (ask_c (g := gR S j) (by assumption) (Or.inl rfl)).symm | exact (ask_c (g := gR S j) (by assumption) (Or.inr rfl)).symm | exact (ask_d (g := gR S j) (by assumption) (by assumption) (by assumption) (by assumption)).symm
    exact W.iret (v := (((fA S 1 (12 * j + 2)) / 2) + (fA S 1 ((((12 * j) + 8) + (x % 4)))))) hx hb hr (fun t_ ht_ hW_ => ⟨(((fA S 1 (12 * j + 2)) / 2) + (fA S 1 ((((12 * j) + 8) + (x % 4))))), rfl, hpost, ht_⟩) (fun q h => by cases h) (fk_get fk_cX12_asksOf_1 17 rfl)
  have o_19 : ((fA S 1 (12 * j + 0))).toInt < 1 ∨ 6 < ((fA S 1 (12 * j + 0))).toInt := by
    have qc_9 : ¬ ((fA S 1 (12 * j + 0))).toInt = 1 := lv_neT c_9 (by decide)
    have qc_10 : ¬ ((fA S 1 (12 * j + 0))).toInt = 2 := lv_neT c_10 (by decide)
    have qc_11 : ¬ ((fA S 1 (12 * j + 0))).toInt = 3 := lv_neT c_11 (by decide)
    have qc_12 : ¬ ((fA S 1 (12 * j + 0))).toInt = 4 := lv_neT c_12 (by decide)
    have qc_15 : ¬ ((fA S 1 (12 * j + 0))).toInt = 5 := lv_neT c_15 (by decide)
    have qc_16 : ¬ ((fA S 1 (12 * j + 0))).toInt = 6 := lv_neT c_16 (by decide)
    omega
  refine lv_tableOut (tgt := 105) hx hb (dk_get dk_cX12_asksOf_0 0 rfl) o_19 (by decide) ?_
  refine lv_iload_n hx hb (fk_get fk_cX12_asksOf_1 18 rfl) rfl (lv_at hl 1 rfl) ?_
  subst hQ
  have hpost : ((fA S 1 (12 * j + 2)) : Int32) = askF (gR S j) := by
    first | exact (ask_1 (g := gR S j) (by assumption)).symm | exact (ask_3 (g := gR S j) (by assumption)).symm | exact (ask_4 (g := gR S j) (by assumption)).symm | exact (ask_6 (g := gR S j) (x := x) (by assumption) hx6 (by omega)).symm | (have q6_ := (ask_6 (g := gR S j) (x := x) (by assumption) hx6 (by omega)).symm; rw [gR_k (k := 8 + x % 4) (by omega), ← Nat.add_assoc] at q6_; exact q6_) | exact (ask_c (g := gR S j) (by assumption) (Or.inl rfl)).symm | exact (ask_c (g := gR S j) (by assumption) (Or.inr rfl)).symm | exact (ask_d (g := gR S j) (by assumption) (by assumption) (by assumption) (by assumption)).symm
  exact W.iret (v := (fA S 1 (12 * j + 2))) hx hb hr (fun t_ ht_ hW_ => ⟨(fA S 1 (12 * j + 2)), rfl, hpost, ht_⟩) (fun q h => by cases h) (fk_get fk_cX12_asksOf_1 19 rfl)
set_option maxHeartbeats 800000 in
set_option maxRecDepth 100000 in
theorem c_letsOfE (l : Launch) (G : GG) (ad : Nat → Nat) (S : FS) (sz : Nat) (c : Int32) (j : Nat) (ej : c = nI j) (hj : j < 6) : Met l yX12_letsOf (Cond.code yX12_letsOf cX12_letsOf 3 (some .int) :: TBL) ({ frames := 3, cells := 0, slots := 0, locals := 90 } : Room) (PcW G (wR G ad S) sz [.ref (ad 0), .int (c)]) (vp_Si (fun (r : Int32) => r = letF (gR S j))) 0 0 (fun _ => False) := by
  refine Met.ofW (cc := cX12_letsOf) (maxL := 3) (ret := (some .int)) (by decide) rfl ?_
  intro p e s m args below meth c₀ s₁ B hml hv
  obtain ⟨rfl, hsz, hP, hK, hD0⟩ := hv
  have hx := B.exec
  have hb := B.bytes
  have hr := B.returns
  have hT : ∀ w ∈ TBL, w.before ([.ref (ad 0), .int (c)] : List Value).toArray s = true := fun w h => atoms_spec (ws := Cond.code yX12_letsOf cX12_letsOf 3 (some .int) :: TBL) B.pre w (List.mem_cons_of_mem _ h)
  have hown : s.vm.findClass "LittleMoreModel" = some m.cls := findClass_of_methodNamed B.named
  have hlocks := B.notSynchronized
  have hD := hD0
  have hP : va_P G.1 vwCl (wR G ad S) s.heap := hP
  have hl := lv_entry ([.ref (ad 0), .int (c)]) (n := 3) (Nat.le_of_ble_eq_true rfl)
  rw [lg_entry_eq]
  generalize (lg_sl ([.ref (ad 0), .int (c)]) ++ List.replicate (3 - (lg_sl ([.ref (ad 0), .int (c)])).length) Slot.unset).toArray = ls at hl ⊢
  have hl : lv_has ls 3 [(0, .ref (ad 0)), (1, .int (c))] := hl
  refine W_abs (fun Q hQ => ?_)
  generalize ([.ref (ad 0), .int (c)] : List Value).toArray = args at hT hQ ⊢
  refine lv_aload_n hx hb (fk_get fk_cX12_letsOf_0 0 rfl) rfl (lv_at hl 0 rfl) ?_
  refine lv_iload_n hx hb (fk_get fk_cX12_letsOf_0 1 rfl) rfl (lv_at hl 1 rfl) ?_
  refine lv_iconst (v := 1) hx hb (fk_get fk_cX12_letsOf_0 2 rfl) (by decide) ?_
  refine vp_callSi (W.runV (As := [.int (c), .int (1)]) (rest := []) ⟨hx, hb, hml, hown, hT⟩ (c_of0 l G ad S s.heap.size (c) (1) (((12 * j) + 1)) (n_add (n_mul (rfl) (ej)) (rfl)) (by omega)) (tV 2 hT m6_119 m6_121 mp_34 m1_17 m6_122 rfl rfl (by decide +kernel) ⟨Nat.le_of_ble_eq_true rfl, Nat.le_of_ble_eq_true rfl⟩) ⟨PcW_blind, va_recv hK hP (ci := 14) (q0 := 0) rfl (ix_at (by decide) (cR_0 G ad S)), PcW_of hP hK hD _⟩ rfl rfl hl.1 rfl (lv_room (Nat.le_of_ble_eq_true rfl)) (fk_get fk_cX12_letsOf_0 3 rfl) ⟨Nat.zero_le _, Nat.zero_le _⟩) (fun r_1 hw_2 => ?_)
  try dsimp only at hw_2
  subst hw_2
  refine lv_istore_n (lv' := [(2, .int ((fA S 1 (12 * j + 1)))), (0, .ref (ad 0)), (1, .int (c))]) hx hb (fk_get fk_cX12_letsOf_0 4 rfl) rfl hl (by decide) rfl (fun ls hl => ?_)
  refine lv_aload_n hx hb (fk_get fk_cX12_letsOf_0 5 rfl) rfl (lv_at hl 1 rfl) ?_
  refine lv_iload_n hx hb (fk_get fk_cX12_letsOf_0 6 rfl) rfl (lv_at hl 2 rfl) ?_
  refine lv_iconst (v := 0) hx hb (fk_get fk_cX12_letsOf_0 7 rfl) (by decide) ?_
  refine vp_callSi (W.runV (As := [.int (c), .int (0)]) (rest := []) ⟨hx, hb, hml, hown, hT⟩ (c_of0 l G ad S s.heap.size (c) (0) (((12 * j) + 0)) (n_add (n_mul (rfl) (ej)) (rfl)) (by omega)) (tV 2 hT m6_119 m6_121 mp_34 m1_17 m6_122 rfl rfl (by decide +kernel) ⟨Nat.le_of_ble_eq_true rfl, Nat.le_of_ble_eq_true rfl⟩) ⟨PcW_blind, va_recv hK hP (ci := 14) (q0 := 0) rfl (ix_at (by decide) (cR_0 G ad S)), PcW_of hP hK hD _⟩ rfl rfl hl.1 rfl (lv_room (Nat.le_of_ble_eq_true rfl)) (fk_get fk_cX12_letsOf_0 8 rfl) ⟨Nat.zero_le _, Nat.zero_le _⟩) (fun r_3 hw_4 => ?_)
  try dsimp only at hw_4
  subst hw_4
  by_cases c_5 : (fA S 1 (12 * j + 0)) = (0 : Int32)
  · refine lv_tableIn (off := 39) (tgt := 52) hx hb (dk_get dk_cX12_letsOf_0 0 rfl) (by rw [c_5]; decide) (by rw [c_5]; decide) (by rw [c_5]; rfl) (by decide) ?_
    refine lv_iload_n hx hb (fk_get fk_cX12_letsOf_0 9 rfl) rfl (lv_at hl 0 rfl) ?_
    subst hQ
    have hpost : ((fA S 1 (12 * j + 1)) : Int32) = letF (gR S j) := by
      first | exact (let_0 (g := gR S j) (by assumption)).symm | exact (let_1 (g := gR S j) (by assumption)).symm | exact (let_2 (g := gR S j) (by assumption)).symm | exact (let_3 (g := gR S j) (by assumption)).symm | exact (let_4 (g := gR S j) (by assumption)).symm | exact (let_5 (g := gR S j) (by assumption)).symm | exact (let_d (g := gR S j) (by assumption) (by assumption) (by assumption) (by assumption) (by assumption)).symm
    exact W.iret (v := (fA S 1 (12 * j + 1))) hx hb hr (fun t_ ht_ hW_ => ⟨(fA S 1 (12 * j + 1)), rfl, hpost, ht_⟩) (fun q h => by cases h) (fk_get fk_cX12_letsOf_0 10 rfl)
  by_cases c_6 : (fA S 1 (12 * j + 0)) = (1 : Int32)
  · refine lv_tableIn (off := 41) (tgt := 54) hx hb (dk_get dk_cX12_letsOf_0 0 rfl) (by rw [c_6]; decide) (by rw [c_6]; decide) (by rw [c_6]; rfl) (by decide) ?_
    refine lv_iload_n hx hb (fk_get fk_cX12_letsOf_0 11 rfl) rfl (lv_at hl 0 rfl) ?_
    refine lv_iconst (v := 2) hx hb (fk_get fk_cX12_letsOf_0 12 rfl) (by decide) ?_
    refine lv_idiv hx hb (fk_get fk_cX12_letsOf_0 13 rfl) (by decide) ?_
    subst hQ
    have hpost : (((fA S 1 (12 * j + 1)) / 2) : Int32) = letF (gR S j) := by
      first | exact (let_0 (g := gR S j) (by assumption)).symm | exact (let_1 (g := gR S j) (by assumption)).symm | exact (let_2 (g := gR S j) (by assumption)).symm | exact (let_3 (g := gR S j) (by assumption)).symm | exact (let_4 (g := gR S j) (by assumption)).symm | exact (let_5 (g := gR S j) (by assumption)).symm | exact (let_d (g := gR S j) (by assumption) (by assumption) (by assumption) (by assumption) (by assumption)).symm
    exact W.iret (v := ((fA S 1 (12 * j + 1)) / 2)) hx hb hr (fun t_ ht_ hW_ => ⟨((fA S 1 (12 * j + 1)) / 2), rfl, hpost, ht_⟩) (fun q h => by cases h) (fk_get fk_cX12_letsOf_0 14 rfl)
  by_cases c_7 : (fA S 1 (12 * j + 0)) = (2 : Int32)
  · refine lv_tableIn (off := 60) (tgt := 73) hx hb (dk_get dk_cX12_letsOf_0 0 rfl) (by rw [c_7]; decide) (by rw [c_7]; decide) (by rw [c_7]; rfl) (by decide) ?_
    refine lv_iconst (v := 2) hx hb (fk_get fk_cX12_letsOf_0 26 rfl) (by decide) ?_
    refine lv_iload_n hx hb (fk_get fk_cX12_letsOf_0 27 rfl) rfl (lv_at hl 0 rfl) ?_
    refine lv_imul hx hb (fk_get fk_cX12_letsOf_0 28 rfl) ?_
    subst hQ
    have hpost : ((2 * (fA S 1 (12 * j + 1))) : Int32) = letF (gR S j) := by
      first | exact (let_0 (g := gR S j) (by assumption)).symm | exact (let_1 (g := gR S j) (by assumption)).symm | exact (let_2 (g := gR S j) (by assumption)).symm | exact (let_3 (g := gR S j) (by assumption)).symm | exact (let_4 (g := gR S j) (by assumption)).symm | exact (let_5 (g := gR S j) (by assumption)).symm | exact (let_d (g := gR S j) (by assumption) (by assumption) (by assumption) (by assumption) (by assumption)).symm
    exact W.iret (v := (2 * (fA S 1 (12 * j + 1)))) hx hb hr (fun t_ ht_ hW_ => ⟨(2 * (fA S 1 (12 * j + 1))), rfl, hpost, ht_⟩) (fun q h => by cases h) (fk_get fk_cX12_letsOf_0 29 rfl)
  by_cases c_8 : (fA S 1 (12 * j + 0)) = (3 : Int32)
  · refine lv_tableIn (off := 64) (tgt := 77) hx hb (dk_get dk_cX12_letsOf_0 0 rfl) (by rw [c_8]; decide) (by rw [c_8]; decide) (by rw [c_8]; rfl) (by decide) ?_
    refine lv_bipush (v := 99) hx hb (fk_get fk_cX12_letsOf_0 30 rfl) (by decide) ?_
    subst hQ
    have hpost : (99 : Int32) = letF (gR S j) := by
      first | exact (let_0 (g := gR S j) (by assumption)).symm | exact (let_1 (g := gR S j) (by assumption)).symm | exact (let_2 (g := gR S j) (by assumption)).symm | exact (let_3 (g := gR S j) (by assumption)).symm | exact (let_4 (g := gR S j) (by assumption)).symm | exact (let_5 (g := gR S j) (by assumption)).symm | exact (let_d (g := gR S j) (by assumption) (by assumption) (by assumption) (by assumption) (by assumption)).symm
    exact W.iret (v := 99) hx hb hr (fun t_ ht_ hW_ => ⟨99, rfl, hpost, ht_⟩) (fun q h => by cases h) (fk_get fk_cX12_letsOf_0 31 rfl)
  by_cases c_9 : (fA S 1 (12 * j + 0)) = (4 : Int32)
  · refine lv_tableIn (off := 45) (tgt := 58) hx hb (dk_get dk_cX12_letsOf_0 0 rfl) (by rw [c_9]; decide) (by rw [c_9]; decide) (by rw [c_9]; rfl) (by decide) ?_
    refine lv_iload_n hx hb (fk_get fk_cX12_letsOf_0 15 rfl) rfl (lv_at hl 0 rfl) ?_
    refine lv_iconst (v := 2) hx hb (fk_get fk_cX12_letsOf_0 16 rfl) (by decide) ?_
    refine lv_idiv hx hb (fk_get fk_cX12_letsOf_0 17 rfl) (by decide) ?_
    refine lv_aload_n hx hb (fk_get fk_cX12_letsOf_0 18 rfl) rfl (lv_at hl 1 rfl) ?_
    refine lv_iload_n hx hb (fk_get fk_cX12_letsOf_0 19 rfl) rfl (lv_at hl 2 rfl) ?_
    refine lv_iconst (v := 4) hx hb (fk_get fk_cX12_letsOf_0 20 rfl) (by decide) ?_
    refine vp_callSi (W.runV (As := [.int (c), .int (4)]) (rest := [.int (((fA S 1 (12 * j + 1)) / 2))]) ⟨hx, hb, hml, hown, hT⟩ (c_of0 l G ad S s.heap.size (c) (4) (((12 * j) + 4)) (n_add (n_mul (rfl) (ej)) (rfl)) (by omega)) (tV 2 hT m6_119 m6_121 mp_34 m1_17 m6_122 rfl rfl (by decide +kernel) ⟨Nat.le_of_ble_eq_true rfl, Nat.le_of_ble_eq_true rfl⟩) ⟨PcW_blind, va_recv hK hP (ci := 14) (q0 := 0) rfl (ix_at (by decide) (cR_0 G ad S)), PcW_of hP hK hD _⟩ rfl rfl hl.1 rfl (lv_room (Nat.le_of_ble_eq_true rfl)) (fk_get fk_cX12_letsOf_0 21 rfl) ⟨Nat.zero_le _, Nat.zero_le _⟩) (fun r_10 hw_11 => ?_)
    try dsimp only at hw_11
    subst hw_11
    refine lv_isub hx hb (fk_get fk_cX12_letsOf_0 22 rfl) ?_
    refine lv_iconst (v := 0) hx hb (fk_get fk_cX12_letsOf_0 23 rfl) (by decide) ?_
    refine vp_callSi (W.runS (As := [.int ((((fA S 1 (12 * j + 1)) / 2) - (fA S 1 (12 * j + 4)))), .int (0)]) (rest := []) ⟨hx, hb, hml, hown, hT⟩ (c_atLeast l ((((fA S 1 (12 * j + 1)) / 2) - (fA S 1 (12 * j + 4)))) (0) ) (tS 2 hT m6_147 m6_148 m1_17 m6_149 rfl rfl (by decide +kernel) ⟨Nat.le_of_ble_eq_true rfl, Nat.le_of_ble_eq_true rfl⟩) ⟨PcN_blind, PcN_of _ _ _⟩ rfl rfl hl.1 rfl (lv_room (Nat.le_of_ble_eq_true rfl)) (fk_get fk_cX12_letsOf_0 24 rfl) ⟨Nat.zero_le _, Nat.zero_le _⟩) (fun r_12 hw_13 => ?_)
    try dsimp only at hw_13
    subst hw_13
    subst hQ
    have hpost : ((mx 0 (fA S 1 (12 * j + 1) / 2 - fA S 1 (12 * j + 4))) : Int32) = letF (gR S j) := by
      first | exact (let_0 (g := gR S j) (by assumption)).symm | exact (let_1 (g := gR S j) (by assumption)).symm | exact (let_2 (g := gR S j) (by assumption)).symm | exact (let_3 (g := gR S j) (by assumption)).symm | exact (let_4 (g := gR S j) (by assumption)).symm | exact (let_5 (g := gR S j) (by assumption)).symm | exact (let_d (g := gR S j) (by assumption) (by assumption) (by assumption) (by assumption) (by assumption)).symm
    exact W.iret (v := (mx 0 (fA S 1 (12 * j + 1) / 2 - fA S 1 (12 * j + 4)))) hx hb hr (fun t_ ht_ hW_ => ⟨(mx 0 (fA S 1 (12 * j + 1) / 2 - fA S 1 (12 * j + 4))), rfl, hpost, ht_⟩) (fun q h => by cases h) (fk_get fk_cX12_letsOf_0 25 rfl)
  by_cases c_14 : (fA S 1 (12 * j + 0)) = (5 : Int32)
  · refine lv_tableIn (off := 60) (tgt := 73) hx hb (dk_get dk_cX12_letsOf_0 0 rfl) (by rw [c_14]; decide) (by rw [c_14]; decide) (by rw [c_14]; rfl) (by decide) ?_
    refine lv_iconst (v := 2) hx hb (fk_get fk_cX12_letsOf_0 26 rfl) (by decide) ?_
    refine lv_iload_n hx hb (fk_get fk_cX12_letsOf_0 27 rfl) rfl (lv_at hl 0 rfl) ?_
    refine lv_imul hx hb (fk_get fk_cX12_letsOf_0 28 rfl) ?_
    subst hQ
    have hpost : ((2 * (fA S 1 (12 * j + 1))) : Int32) = letF (gR S j) := by
      first | exact (let_0 (g := gR S j) (by assumption)).symm | exact (let_1 (g := gR S j) (by assumption)).symm | exact (let_2 (g := gR S j) (by assumption)).symm | exact (let_3 (g := gR S j) (by assumption)).symm | exact (let_4 (g := gR S j) (by assumption)).symm | exact (let_5 (g := gR S j) (by assumption)).symm | exact (let_d (g := gR S j) (by assumption) (by assumption) (by assumption) (by assumption) (by assumption)).symm
    exact W.iret (v := (2 * (fA S 1 (12 * j + 1)))) hx hb hr (fun t_ ht_ hW_ => ⟨(2 * (fA S 1 (12 * j + 1))), rfl, hpost, ht_⟩) (fun q h => by cases h) (fk_get fk_cX12_letsOf_0 29 rfl)
  have o_15 : ((fA S 1 (12 * j + 0))).toInt < 0 ∨ 5 < ((fA S 1 (12 * j + 0))).toInt := by
    have qc_5 : ¬ ((fA S 1 (12 * j + 0))).toInt = 0 := lv_neT c_5 (by decide)
    have qc_6 : ¬ ((fA S 1 (12 * j + 0))).toInt = 1 := lv_neT c_6 (by decide)
    have qc_7 : ¬ ((fA S 1 (12 * j + 0))).toInt = 2 := lv_neT c_7 (by decide)
    have qc_8 : ¬ ((fA S 1 (12 * j + 0))).toInt = 3 := lv_neT c_8 (by decide)
    have qc_9 : ¬ ((fA S 1 (12 * j + 0))).toInt = 4 := lv_neT c_9 (by decide)
    have qc_14 : ¬ ((fA S 1 (12 * j + 0))).toInt = 5 := lv_neT c_14 (by decide)
    omega
  refine lv_tableOut (tgt := 77) hx hb (dk_get dk_cX12_letsOf_0 0 rfl) o_15 (by decide) ?_
  refine lv_bipush (v := 99) hx hb (fk_get fk_cX12_letsOf_0 30 rfl) (by decide) ?_
  subst hQ
  have hpost : (99 : Int32) = letF (gR S j) := by
    first | exact (let_0 (g := gR S j) (by assumption)).symm | exact (let_1 (g := gR S j) (by assumption)).symm | exact (let_2 (g := gR S j) (by assumption)).symm | exact (let_3 (g := gR S j) (by assumption)).symm | exact (let_4 (g := gR S j) (by assumption)).symm | exact (let_5 (g := gR S j) (by assumption)).symm | exact (let_d (g := gR S j) (by assumption) (by assumption) (by assumption) (by assumption) (by assumption)).symm
  exact W.iret (v := 99) hx hb hr (fun t_ ht_ hW_ => ⟨99, rfl, hpost, ht_⟩) (fun q h => by cases h) (fk_get fk_cX12_letsOf_0 31 rfl)
set_option maxHeartbeats 800000 in
set_option maxRecDepth 100000 in
theorem c_saysNoE (l : Launch) (G : GG) (ad : Nat → Nat) (S : FS) (sz : Nat) (z : Nat) (τ : Nat → Int32) (C : ClU) (c : Int32) (j : Nat) (hHOK : HOK S) (hHX : HOX S z τ C) (ej : c = nI j) (hj : j < 6) : Met l yX12_saysNo (Cond.code yX12_saysNo cX12_saysNo 2 (some .boolean) :: TBL) ({ frames := 6, cells := 0, slots := 0, locals := 176 } : Room) (PcW G (wR G ad S) sz [.ref (ad 0), .int (c)]) (va_Qi (fun (r : Int32) (S' : FS) => HFr S S' ∧ r = if letF (gR S j) < (moF (fF S 0 2) τ C c (gR S j)) then 1 else 0) (fun S' t => BW G (va_A (wR G ad S) sz) (wR G ad S') t) (va_A (wR G ad S) sz)) 0 0 (va_A (wR G ad S) sz) := by
  refine Met.ofW (cc := cX12_saysNo) (maxL := 2) (ret := (some .boolean)) (by decide) rfl ?_
  intro p e s m args below meth c₀ s₁ B hml hv
  obtain ⟨rfl, hsz, hP, hK, hD0⟩ := hv
  have hx := B.exec
  have hb := B.bytes
  have hr := B.returns
  have hT : ∀ w ∈ TBL, w.before ([.ref (ad 0), .int (c)] : List Value).toArray s = true := fun w h => atoms_spec (ws := Cond.code yX12_saysNo cX12_saysNo 2 (some .boolean) :: TBL) B.pre w (List.mem_cons_of_mem _ h)
  have hown : s.vm.findClass "LittleMoreModel" = some m.cls := findClass_of_methodNamed B.named
  have hlocks := B.notSynchronized
  subst hsz
  have hD := hD0.self (sz := s.heap.size)
  generalize hAe : va_A (wR G ad S) s.heap.size = A at hD ⊢
  have hA : ∀ q : Nat, s.heap.size ≤ q → A q := fun q h => by rw [← hAe]; exact Or.inr h
  have hS : va_S A s.heap s.heap [] := va_S.rf
  have hP : va_P G.1 vwCl (wR G ad S) s.heap := hP
  have hl := lv_entry ([.ref (ad 0), .int (c)]) (n := 2) (Nat.le_of_ble_eq_true rfl)
  rw [lg_entry_eq]
  generalize (lg_sl ([.ref (ad 0), .int (c)]) ++ List.replicate (2 - (lg_sl ([.ref (ad 0), .int (c)])).length) Slot.unset).toArray = ls at hl ⊢
  have hl : lv_has ls 2 [(0, .ref (ad 0)), (1, .int (c))] := hl
  refine W_abs (fun Q hQ => ?_)
  generalize ([.ref (ad 0), .int (c)] : List Value).toArray = args at hT hQ ⊢
  refine lv_aload_n hx hb (fk_get fk_cX12_saysNo_0 0 rfl) rfl (lv_at hl 0 rfl) ?_
  refine lv_iload_n hx hb (fk_get fk_cX12_saysNo_0 1 rfl) rfl (lv_at hl 1 rfl) ?_
  have hFc := va_self hD hS hA
  refine va_calli (va_runV (As := [.int (c)]) (rest := []) ⟨hx, hb, hml, hown, hT⟩ (c_moreOfE l G ad S s.heap.size (z) (τ) (C) (c) (j) (hHOK) (hHX) (ej) (hj)) (tV 1 hT m6_115 m6_117 mp_33 m1_17 m6_118 rfl rfl (by decide +kernel) ⟨Nat.le_of_ble_eq_true rfl, Nat.le_of_ble_eq_true rfl⟩) ⟨PcW_blind, va_recv hK hP (ci := 14) (q0 := 0) rfl (ix_at (by decide) (cR_0 G ad S)), PcW_of hP hK hD _⟩ rfl rfl hl.1 rfl (lv_room (Nat.le_of_ble_eq_true rfl)) (fk_get fk_cX12_saysNo_0 2 rfl) ⟨Nat.zero_le _, Nat.zero_le _⟩) hS (fun q _ h => hFc q h) hFc (fun r_1 S_3 t_ H locs ht_ hvm_ hw_2 hB_ hz_ hk_ hS => ?_)
  obtain ⟨hP, -, hD1_⟩ := hB_
  rw [ht_] at hP
  have hD : va_D A (wR G ad S_3) := hD1_.weaken (fun k q _ h => hFc q.1 h)
  try dsimp only at hw_2
  obtain ⟨hH, hr1_⟩ := hw_2
  subst hr1_
  refine lv_aload_n hx hb (fk_get fk_cX12_saysNo_0 3 rfl) rfl (lv_at hl 0 rfl) ?_
  refine lv_iload_n hx hb (fk_get fk_cX12_saysNo_0 4 rfl) rfl (lv_at hl 1 rfl) ?_
  refine vp_callSi (W.runV (As := [.int (c)]) (rest := [.int (((moF (fF S 0 2) τ C c (gR S j))))]) ⟨hx, hb, hml, hown, hT⟩ (c_letsOfE l G ad S_3 H.size (c) (j) (ej) (hj)) (tV 1 hT m6_150 m6_152 mp_41 m1_17 m6_153 rfl rfl (by decide +kernel) ⟨Nat.le_of_ble_eq_true rfl, Nat.le_of_ble_eq_true rfl⟩) ⟨PcW_blind, va_recv hK hP (ci := 14) (q0 := 0) rfl (ix_at (by decide) (cR_0 G ad S_3)), PcW_of hP hK hD _⟩ rfl rfl hl.1 rfl (lv_room (Nat.le_of_ble_eq_true rfl)) (fk_get fk_cX12_saysNo_0 5 rfl) ⟨Nat.zero_le _, Nat.zero_le _⟩) (fun r_4 hw_5 => ?_)
  try dsimp only at hw_5
  rw [gR_H hH] at hw_5
  subst hw_5
  refine lv_icmp_le (tgt := 17) hx hb (fk_get fk_cX12_saysNo_0 6 rfl) (by decide) (fun c_6 => ?_) (fun c_6 => ?_)
  · refine lv_iconst (v := 0) hx hb (fk_get fk_cX12_saysNo_0 9 rfl) (by decide) ?_
    subst hQ
    have hpost : HFr S S_3 ∧ (0 : Int32) = if letF (gR S j) < (moF (fF S 0 2) τ C c (gR S j)) then 1 else 0 := by
      first | exact ⟨hH, (if_pos (Int32.not_le.mp (by assumption))).symm⟩ | exact ⟨hH, (if_neg (Int32.not_lt.mpr (by assumption))).symm⟩
    exact W.zret (v := 0) hx hb hr rfl (fun t_ ht_ hW_ => ⟨⟨0, S_3, rfl, hpost, by rw [ht_]; exact hP, va_K.moved hW_.alike hK, hD⟩, hS.F ht_⟩) hS.2.2 (fk_get fk_cX12_saysNo_0 10 rfl)
  refine lv_iconst (v := 1) hx hb (fk_get fk_cX12_saysNo_0 7 rfl) (by decide) ?_
  refine lv_goto (tgt := 18) hx hb (fk_get fk_cX12_saysNo_0 8 rfl) (by decide) ?_
  subst hQ
  have hpost : HFr S S_3 ∧ (1 : Int32) = if letF (gR S j) < (moF (fF S 0 2) τ C c (gR S j)) then 1 else 0 := by
    first | exact ⟨hH, (if_pos (Int32.not_le.mp (by assumption))).symm⟩ | exact ⟨hH, (if_neg (Int32.not_lt.mpr (by assumption))).symm⟩
  exact W.zret (v := 1) hx hb hr rfl (fun t_ ht_ hW_ => ⟨⟨1, S_3, rfl, hpost, by rw [ht_]; exact hP, va_K.moved hW_.alike hK, hD⟩, hS.F ht_⟩) hS.2.2 (fk_get fk_cX12_saysNo_0 10 rfl)
set_option maxHeartbeats 800000 in
set_option maxRecDepth 100000 in
theorem c_visitOneE (l : Launch) (G : GG) (ad : Nat → Nat) (S : FS) (sz : Nat) (z : Nat) (τ : Nat → Int32) (C : ClU) (c : Int32) (j x : Nat) (hHOK : HOK S) (hHX : HOX S z τ C) (ej : c = nI j) (hj : j < 6) (hx6 : fA S 1 (12 * j + 6) = nI x) (hx30 : x < 1000000) : Met l yX12_visitOne (Cond.code yX12_visitOne cX12_visitOne 6 none :: TBL) ({ frames := 7, cells := 0, slots := 0, locals := 201 } : Room) (PcW G (wR G ad S) sz [.ref (ad 0), .int (c)]) (va_Qv (fun (S' : FS) => (∃ y, VR j y S S' ∧ y ≤ x + 1 ∧ (fF S 0 15 = 0 → x ≤ 9999 → y ≤ 9999)) ∧ VS S' j (visF (fF S 0 15) (lstW 3 1 C) (moF (fF S 0 2) τ C c (gR S j)) (gR S j)) ∧ fF S' 0 33 = (boF (moF (fF S 0 2) τ C c (gR S j)) (gR S j)) ∧ fF S' 0 34 = askF (gR S j) ∧ fF S' 0 35 = askF (gR S j) + (moF (fF S 0 2) τ C c (gR S j))) (fun S' t => BW G (va_A (wR G ad S) sz) (wR G ad S') t) (va_A (wR G ad S) sz)) 0 0 (va_A (wR G ad S) sz) := by
  refine Met.ofW (cc := cX12_visitOne) (maxL := 6) (ret := none) (by decide) rfl ?_
  intro p e s m args below meth c₀ s₁ B hml hv
  obtain ⟨rfl, hsz, hP, hK, hD0⟩ := hv
  have hx := B.exec
  have hb := B.bytes
  have hr := B.returns
  have hT : ∀ w ∈ TBL, w.before ([.ref (ad 0), .int (c)] : List Value).toArray s = true := fun w h => atoms_spec (ws := Cond.code yX12_visitOne cX12_visitOne 6 none :: TBL) B.pre w (List.mem_cons_of_mem _ h)
  have hown : s.vm.findClass "LittleMoreModel" = some m.cls := findClass_of_methodNamed B.named
  have hlocks := B.notSynchronized
  subst hsz
  have hD := hD0.self (sz := s.heap.size)
  generalize hAe : va_A (wR G ad S) s.heap.size = A at hD ⊢
  have hA : ∀ q : Nat, s.heap.size ≤ q → A q := fun q h => by rw [← hAe]; exact Or.inr h
  have hS : va_S A s.heap s.heap [] := va_S.rf
  have hP : va_P G.1 vwCl (wR G ad S) s.heap := hP
  have hl := lv_entry ([.ref (ad 0), .int (c)]) (n := 6) (Nat.le_of_ble_eq_true rfl)
  rw [lg_entry_eq]
  generalize (lg_sl ([.ref (ad 0), .int (c)]) ++ List.replicate (6 - (lg_sl ([.ref (ad 0), .int (c)])).length) Slot.unset).toArray = ls at hl ⊢
  have hl : lv_has ls 6 [(0, .ref (ad 0)), (1, .int (c))] := hl
  refine W_abs (fun Q hQ => ?_)
  generalize ([.ref (ad 0), .int (c)] : List Value).toArray = args at hT hQ ⊢
  refine lv_aload_n hx hb (fk_get fk_cX12_visitOne_0 0 rfl) rfl (lv_at hl 0 rfl) ?_
  refine lv_iload_n hx hb (fk_get fk_cX12_visitOne_0 1 rfl) rfl (lv_at hl 1 rfl) ?_
  have hFc := va_self hD hS hA
  refine va_calli (va_runV (As := [.int (c)]) (rest := []) ⟨hx, hb, hml, hown, hT⟩ (c_moreOfE l G ad S s.heap.size (z) (τ) (C) (c) (j) (hHOK) (hHX) (ej) (hj)) (tV 1 hT m6_115 m6_117 mp_33 m1_17 m6_118 rfl rfl (by decide +kernel) ⟨Nat.le_of_ble_eq_true rfl, Nat.le_of_ble_eq_true rfl⟩) ⟨PcW_blind, va_recv hK hP (ci := 14) (q0 := 0) rfl (ix_at (by decide) (cR_0 G ad S)), PcW_of hP hK hD _⟩ rfl rfl hl.1 rfl (lv_room (Nat.le_of_ble_eq_true rfl)) (fk_get fk_cX12_visitOne_0 2 rfl) ⟨Nat.zero_le _, Nat.zero_le _⟩) hS (fun q _ h => hFc q h) hFc (fun r_1 S_3 t_ H locs ht_ hvm_ hw_2 hB_ hz_ hk_ hS => ?_)
  obtain ⟨hP, -, hD1_⟩ := hB_
  rw [ht_] at hP
  have hD : va_D A (wR G ad S_3) := hD1_.weaken (fun k q _ h => hFc q.1 h)
  try dsimp only at hw_2
  obtain ⟨hH1, hr1_⟩ := hw_2
  subst hr1_
  refine lv_istore_n (lv' := [(2, .int (((moF (fF S 0 2) τ C c (gR S j))))), (0, .ref (ad 0)), (1, .int (c))]) hx hb (fk_get fk_cX12_visitOne_0 3 rfl) rfl hl (by decide) rfl (fun ls hl => ?_)
  refine lv_aload_n hx hb (fk_get fk_cX12_visitOne_0 4 rfl) rfl (lv_at hl 1 rfl) ?_
  refine lv_iload_n hx hb (fk_get fk_cX12_visitOne_0 5 rfl) rfl (lv_at hl 2 rfl) ?_
  have hFc := va_self hD hS hA
  refine va_calli (va_runV (As := [.int (c)]) (rest := []) ⟨hx, hb, hml, hown, hT⟩ (c_saysNoE l G ad S_3 H.size (z) (τ) (C) (c) (j) (hHOK.H hH1) (hHX.H hH1) (ej) (hj)) (tV 1 hT m6_154 m6_156 mp_42 m1_17 m6_157 rfl rfl (by decide +kernel) ⟨Nat.le_of_ble_eq_true rfl, Nat.le_of_ble_eq_true rfl⟩) ⟨PcW_blind, va_recv hK hP (ci := 14) (q0 := 0) rfl (ix_at (by decide) (cR_0 G ad S_3)), PcW_of hP hK hD _⟩ rfl rfl hl.1 rfl (lv_room (Nat.le_of_ble_eq_true rfl)) (fk_get fk_cX12_visitOne_0 6 rfl) ⟨Nat.zero_le _, Nat.zero_le _⟩) hS (fun q _ h => hFc q h) hFc (fun r_4 S_6 t_ H locs ht_ hvm_ hw_5 hB_ hz_ hk_ hS => ?_)
  obtain ⟨hP, -, hD1_⟩ := hB_
  rw [ht_] at hP
  have hD : va_D A (wR G ad S_6) := hD1_.weaken (fun k q _ h => hFc q.1 h)
  try dsimp only at hw_5
  obtain ⟨hHb, hno⟩ := hw_5
  have hH2 := hH1.trans hHb
  rw [gR_H hH1, hH1.2.2.1 2] at hno
  refine lv_istore_n (lv' := [(3, .int (r_4)), (2, .int (((moF (fF S 0 2) τ C c (gR S j))))), (0, .ref (ad 0)), (1, .int (c))]) hx hb (fk_get fk_cX12_visitOne_0 7 rfl) rfl hl (by decide) rfl (fun ls hl => ?_)
  refine lv_aload_n hx hb (fk_get fk_cX12_visitOne_0 8 rfl) rfl (lv_at hl 2 rfl) ?_
  refine lv_aload_n hx hb (fk_get fk_cX12_visitOne_0 9 rfl) rfl (lv_at hl 2 rfl) ?_
  refine lv_iload_n hx hb (fk_get fk_cX12_visitOne_0 10 rfl) rfl (lv_at hl 3 rfl) ?_
  refine vp_callSi (W.runV (As := [.int (c)]) (rest := [.ref (ad 0)]) ⟨hx, hb, hml, hown, hT⟩ (c_asksOfE l G ad S_6 H.size (c) (j) (x) (ej) (hj) ((congrFun (hH2.a (i := 1) (by decide)) _).trans hx6) (hx30)) (tV 1 hT m6_143 m6_145 mp_40 m1_17 m6_146 rfl rfl (by decide +kernel) ⟨Nat.le_of_ble_eq_true rfl, Nat.le_of_ble_eq_true rfl⟩) ⟨PcW_blind, va_recv hK hP (ci := 14) (q0 := 0) rfl (ix_at (by decide) (cR_0 G ad S_6)), PcW_of hP hK hD _⟩ rfl rfl hl.1 rfl (lv_room (Nat.le_of_ble_eq_true rfl)) (fk_get fk_cX12_visitOne_0 11 rfl) ⟨Nat.zero_le _, Nat.zero_le _⟩) (fun r_7 hw_8 => ?_)
  try dsimp only at hw_8
  rw [gR_H hH2] at hw_8
  subst hw_8
  refine va_put (D := G.1) (ci := 14) (v := .int ((askF (gR S j)))) (ty := .int) (C := RX12) (T := TX12) (N := 49) hx hb hT inX12 tyX12 tyX12_ok nmX12 hown hK hP hD hS 0 (ix_at (by decide) (cR_0 G ad S_6)) rfl 34 (by decide) (hT _ m5_135) (fun _ h9 => h9) rfl (by decide +kernel) rfl rfl (Nat.le_of_ble_eq_true rfl) (fk_get fk_cX12_visitOne_0 12 rfl) (fun H locs hP hD hS => ?_)
  rw [pR_askedFor G ad S_6 ((askF (gR S j)))] at hP hD
  refine lv_aload_n hx hb (fk_get fk_cX12_visitOne_0 13 rfl) rfl (lv_at hl 2 rfl) ?_
  refine lv_aload_n hx hb (fk_get fk_cX12_visitOne_0 14 rfl) rfl (lv_at hl 2 rfl) ?_
  refine va_get (D := G.1) (ci := 14) (v := .int ((askF (gR S j)))) (C := RX12) (T := TX12) (N := 49) hx hb hT inX12 hown hK hP 0 (ix_at (by decide) (cR_0 G ad (setF S_6 0 34 ((askF (gR S j)))))) rfl 34 (by decide) (hT _ m5_135) (fun _ h9 => h9) rfl (fk_get fk_cX12_visitOne_0 15 rfl) ?_
  refine lv_iload_n hx hb (fk_get fk_cX12_visitOne_0 16 rfl) rfl (lv_at hl 1 rfl) ?_
  refine lv_iadd hx hb (fk_get fk_cX12_visitOne_0 17 rfl) ?_
  refine va_put (D := G.1) (ci := 14) (v := .int (((askF (gR S j)) + ((moF (fF S 0 2) τ C c (gR S j)))))) (ty := .int) (C := RX12) (T := TX12) (N := 49) hx hb hT inX12 tyX12 tyX12_ok nmX12 hown hK hP hD hS 0 (ix_at (by decide) (cR_0 G ad (setF S_6 0 34 ((askF (gR S j)))))) rfl 35 (by decide) (hT _ m5_136) (fun _ h9 => h9) rfl (by decide +kernel) rfl rfl (Nat.le_of_ble_eq_true rfl) (fk_get fk_cX12_visitOne_0 18 rfl) (fun H locs hP hD hS => ?_)
  rw [pR_cut G ad (setF S_6 0 34 ((askF (gR S j)))) (((askF (gR S j)) + ((moF (fF S 0 2) τ C c (gR S j)))))] at hP hD
  have jn_9 : ∀ (v1 : Int32) (ls : Array Slot),  (v1 = (boF (moF (fF S 0 2) τ C c (gR S j)) (gR S j))) → lv_has ls 6 [(3, .int (r_4)), (2, .int (((moF (fF S 0 2) τ C c (gR S j))))), (0, .ref (ad 0)), (1, .int (c))] → W p l e ({ frames := 7, cells := 0, slots := 0, locals := 201 } : Room) s m args below meth c₀ H locs 0 0 Q (F0 m 51 ls [.int (v1), .ref (ad 0)]) := by
    intro v1 ls hv1 hl
    refine va_put (D := G.1) (ci := 14) (v := .int (v1)) (ty := .int) (C := RX12) (T := TX12) (N := 49) hx hb hT inX12 tyX12 tyX12_ok nmX12 hown hK hP hD hS 0 (ix_at (by decide) (cR_0 G ad (setF (setF S_6 0 34 ((askF (gR S j)))) 0 35 (((askF (gR S j)) + ((moF (fF S 0 2) τ C c (gR S j)))))))) rfl 33 (by decide) (hT _ m5_134) (fun _ h9 => h9) rfl (by decide +kernel) rfl rfl (Nat.le_of_ble_eq_true rfl) (fk_get fk_cX12_visitOne_0 31 rfl) (fun H locs hP hD hS => ?_)
    rw [pR_bought G ad (setF (setF S_6 0 34 ((askF (gR S j)))) 0 35 (((askF (gR S j)) + ((moF (fF S 0 2) τ C c (gR S j)))))) (v1)] at hP hD
    have hVc : VR j x S (setF (setF (setF S_6 0 34 ((askF (gR S j)))) 0 35 (((askF (gR S j)) + ((moF (fF S 0 2) τ C c (gR S j)))))) 0 33 (v1)) := ((((VR.rf hx6).H hH2).setF (by decide) _).setF (by decide) _).setF (by decide) _
    have hg0 : VS (setF (setF (setF S_6 0 34 ((askF (gR S j)))) 0 35 (((askF (gR S j)) + ((moF (fF S 0 2) τ C c (gR S j)))))) 0 33 (v1)) j (gR S j) := fun k hk_ => (congrFun (hH2.a (i := 1) (by decide)) _).trans (gR_k hk_).symm
    have hf0 : fF (setF (setF (setF S_6 0 34 ((askF (gR S j)))) 0 35 (((askF (gR S j)) + ((moF (fF S 0 2) τ C c (gR S j)))))) 0 33 (v1)) 0 33 = (boF (moF (fF S 0 2) τ C c (gR S j)) (gR S j)) ∧ fF (setF (setF (setF S_6 0 34 ((askF (gR S j)))) 0 35 (((askF (gR S j)) + ((moF (fF S 0 2) τ C c (gR S j)))))) 0 33 (v1)) 0 34 = askF (gR S j) ∧ fF (setF (setF (setF S_6 0 34 ((askF (gR S j)))) 0 35 (((askF (gR S j)) + ((moF (fF S 0 2) τ C c (gR S j)))))) 0 33 (v1)) 0 35 = askF (gR S j) + (moF (fF S 0 2) τ C c (gR S j)) := ⟨hv1, rfl, rfl⟩
    refine lv_aload_n hx hb (fk_get fk_cX12_visitOne_1 0 rfl) rfl (lv_at hl 2 rfl) ?_
    refine lv_iload_n hx hb (fk_get fk_cX12_visitOne_1 1 rfl) rfl (lv_at hl 3 rfl) ?_
    refine lv_iconst (v := 3) hx hb (fk_get fk_cX12_visitOne_1 2 rfl) (by decide) ?_
    refine vp_callSi (W.runV (As := [.int (c), .int (3)]) (rest := []) ⟨hx, hb, hml, hown, hT⟩ (c_of0 l G ad (setF (setF (setF S_6 0 34 ((askF (gR S j)))) 0 35 (((askF (gR S j)) + ((moF (fF S 0 2) τ C c (gR S j)))))) 0 33 (v1)) H.size (c) (3) (((12 * j) + 3)) (n_add (n_mul (rfl) (ej)) (rfl)) (by omega)) (tV 2 hT m6_119 m6_121 mp_34 m1_17 m6_122 rfl rfl (by decide +kernel) ⟨Nat.le_of_ble_eq_true rfl, Nat.le_of_ble_eq_true rfl⟩) ⟨PcW_blind, va_recv hK hP (ci := 14) (q0 := 0) rfl (ix_at (by decide) (cR_0 G ad (setF (setF (setF S_6 0 34 ((askF (gR S j)))) 0 35 (((askF (gR S j)) + ((moF (fF S 0 2) τ C c (gR S j)))))) 0 33 (v1)))), PcW_of hP hK hD _⟩ rfl rfl hl.1 rfl (lv_room (Nat.le_of_ble_eq_true rfl)) (fk_get fk_cX12_visitOne_1 3 rfl) ⟨Nat.zero_le _, Nat.zero_le _⟩) (fun r_10 hw_11 => ?_)
    try dsimp only at hw_11
    rw [show fA (setF (setF (setF S_6 0 34 ((askF (gR S j)))) 0 35 (((askF (gR S j)) + ((moF (fF S 0 2) τ C c (gR S j)))))) 0 33 (v1)) 1 (12 * j + 3) = gR S j 3 from hg0 3 (by decide)] at hw_11
    subst hw_11
    have jn_12 : ∀ (v2 : Int32) (ls : Array Slot),  (v2 = if letF (gR S j) < (moF (fF S 0 2) τ C c (gR S j)) then -2 else (lstW 3 1 C)) → lv_has ls 6 [(3, .int (r_4)), (2, .int (((moF (fF S 0 2) τ C c (gR S j))))), (0, .ref (ad 0)), (1, .int (c))] → W p l e ({ frames := 7, cells := 0, slots := 0, locals := 201 } : Room) s m args below meth c₀ H locs 0 0 Q (F0 m 75 ls [.int (v2), .int ((gR S j 3))]) := by
      intro v2 ls hv2 hl
      refine lv_iadd hx hb (fk_get fk_cX12_visitOne_1 12 rfl) ?_
      refine lv_istore (lv' := [(4, .int (((gR S j 3) + v2))), (3, .int (r_4)), (2, .int (((moF (fF S 0 2) τ C c (gR S j))))), (0, .ref (ad 0)), (1, .int (c))]) hx hb (fk_get fk_cX12_visitOne_1 13 rfl) hl (by decide) rfl (fun ls hl => ?_)
      have jn_13 : ∀ (v3 : Int32) (ls : Array Slot),  (v3 = (cl 20 (gR S j 3 + (if letF (gR S j) < (moF (fF S 0 2) τ C c (gR S j)) then -2 else (lstW 3 1 C))))) → lv_has ls 6 [(4, .int (((gR S j 3) + v2))), (3, .int (r_4)), (2, .int (((moF (fF S 0 2) τ C c (gR S j))))), (0, .ref (ad 0)), (1, .int (c))] → W p l e ({ frames := 7, cells := 0, slots := 0, locals := 201 } : Room) s m args below meth c₀ H locs 0 0 Q (F0 m 104 ls [.int (v3), .int (3), .int (c), .ref (ad 0)]) := by
        intro v3 ls hv3 hl
        have hFc := va_self hD hS hA
        refine va_callv (va_runV (As := [.int (c), .int (3), .int (v3)]) (rest := []) ⟨hx, hb, hml, hown, hT⟩ (c_put l G ad (setF (setF (setF S_6 0 34 ((askF (gR S j)))) 0 35 (((askF (gR S j)) + ((moF (fF S 0 2) τ C c (gR S j)))))) 0 33 (v1)) H.size (c) (3) (v3) (((12 * j) + 3)) (n_add (n_mul (rfl) (ej)) (rfl)) (by omega)) (tV 3 hT m6_102 m6_104 mp_31 m1_17 m6_105 rfl rfl (by decide +kernel) ⟨Nat.le_of_ble_eq_true rfl, Nat.le_of_ble_eq_true rfl⟩) ⟨PcW_blind, va_recv hK hP (ci := 14) (q0 := 0) rfl (ix_at (by decide) (cR_0 G ad (setF (setF (setF S_6 0 34 ((askF (gR S j)))) 0 35 (((askF (gR S j)) + ((moF (fF S 0 2) τ C c (gR S j)))))) 0 33 (v1)))), PcW_of hP hK hD _⟩ rfl rfl hl.1 rfl (lv_room (Nat.le_of_ble_eq_true rfl)) (fk_get fk_cX12_visitOne_1 27 rfl) ⟨Nat.zero_le _, Nat.zero_le _⟩) hS (fun q _ h => hFc q h) hFc (fun S_16 t_ H locs ht_ hvm_ hw_15 hB_ hz_ hk_ hS => ?_)
        obtain ⟨hP, -, hD1_⟩ := hB_
        rw [ht_] at hP
        have hD : va_D A (wR G ad S_16) := hD1_.weaken (fun k q _ h => hFc q.1 h)
        try dsimp only at hw_15
        subst hw_15
        have jn_17 : ∀  (SA : FS) (H_19 : Heap) (locs_20 : List Loc) (ls : Array Slot),  (VR j x S SA) → (VS SA j (upd (upd (gR S j) 3 (cl 20 (gR S j 3 + (if letF (gR S j) < (moF (fF S 0 2) τ C c (gR S j)) then -2 else (lstW 3 1 C))))) 5 (nsF (moF (fF S 0 2) τ C c (gR S j)) (gR S j)))) → (fF SA 0 33 = (boF (moF (fF S 0 2) τ C c (gR S j)) (gR S j)) ∧ fF SA 0 34 = askF (gR S j) ∧ fF SA 0 35 = askF (gR S j) + (moF (fF S 0 2) τ C c (gR S j))) → va_P G.1 vwCl (wR G ad SA) H_19 → va_D A (wR G ad SA) → va_S A s.heap H_19 locs_20 → lv_has ls 6 [(4, .int (((gR S j 3) + v2))), (3, .int (r_4)), (2, .int (((moF (fF S 0 2) τ C c (gR S j))))), (0, .ref (ad 0)), (1, .int (c))] → W p l e ({ frames := 7, cells := 0, slots := 0, locals := 201 } : Room) s m args below meth c₀ H_19 locs_20 0 0 Q (F0 m 136 ls []) := by
          intro  SA H_19 locs_20 ls hVA hgA hfA hP hD hS hl
          have jn_21 : ∀  (SB : FS) (H_23 : Heap) (locs_24 : List Loc) (ls : Array Slot),  (VR j x S SB) → (VS SB j (upd (upd (upd (gR S j) 3 (cl 20 (gR S j 3 + (if letF (gR S j) < (moF (fF S 0 2) τ C c (gR S j)) then -2 else (lstW 3 1 C))))) 5 (nsF (moF (fF S 0 2) τ C c (gR S j)) (gR S j))) 7 (if letF (gR S j) < (moF (fF S 0 2) τ C c (gR S j)) ∧ gR S j 0 = 5 ∧ 3 ≤ (nsF (moF (fF S 0 2) τ C c (gR S j)) (gR S j)) then 1 else gR S j 7))) → (fF SB 0 33 = (boF (moF (fF S 0 2) τ C c (gR S j)) (gR S j)) ∧ fF SB 0 34 = askF (gR S j) ∧ fF SB 0 35 = askF (gR S j) + (moF (fF S 0 2) τ C c (gR S j))) → va_P G.1 vwCl (wR G ad SB) H_23 → va_D A (wR G ad SB) → va_S A s.heap H_23 locs_24 → lv_has ls 6 [(4, .int (((gR S j 3) + v2))), (3, .int (r_4)), (2, .int (((moF (fF S 0 2) τ C c (gR S j))))), (0, .ref (ad 0)), (1, .int (c))] → W p l e ({ frames := 7, cells := 0, slots := 0, locals := 201 } : Room) s m args below meth c₀ H_23 locs_24 0 0 Q (F0 m 168 ls []) := by
            intro  SB H_23 locs_24 ls hVB hgB hfB hP hD hS hl
            refine lv_aload_n hx hb (fk_get fk_cX12_visitOne_3 1 rfl) rfl (lv_at hl 3 rfl) ?_
            refine va_get (D := G.1) (ci := 14) (v := .int ((fF SB 0 33))) (C := RX12) (T := TX12) (N := 49) hx hb hT inX12 hown hK hP 0 (ix_at (by decide) (cR_0 G ad SB)) rfl 33 (by decide) (hT _ m5_134) (fun _ h9 => h9) rfl (fk_get fk_cX12_visitOne_3 2 rfl) ?_
            refine lv_aload_n hx hb (fk_get fk_cX12_visitOne_3 3 rfl) rfl (lv_at hl 3 rfl) ?_
            refine lv_iload_n hx hb (fk_get fk_cX12_visitOne_3 4 rfl) rfl (lv_at hl 4 rfl) ?_
            refine lv_iconst (v := 2) hx hb (fk_get fk_cX12_visitOne_3 5 rfl) (by decide) ?_
            refine vp_callSi (W.runV (As := [.int (c), .int (2)]) (rest := [.int ((fF SB 0 33))]) ⟨hx, hb, hml, hown, hT⟩ (c_of0 l G ad SB H_23.size (c) (2) (((12 * j) + 2)) (n_add (n_mul (rfl) (ej)) (rfl)) (by omega)) (tV 2 hT m6_119 m6_121 mp_34 m1_17 m6_122 rfl rfl (by decide +kernel) ⟨Nat.le_of_ble_eq_true rfl, Nat.le_of_ble_eq_true rfl⟩) ⟨PcW_blind, va_recv hK hP (ci := 14) (q0 := 0) rfl (ix_at (by decide) (cR_0 G ad SB)), PcW_of hP hK hD _⟩ rfl rfl hl.1 rfl (lv_room (Nat.le_of_ble_eq_true rfl)) (fk_get fk_cX12_visitOne_3 6 rfl) ⟨Nat.zero_le _, Nat.zero_le _⟩) (fun r_25 hw_26 => ?_)
            try dsimp only at hw_26
            rw [show fA SB 1 (12 * j + 2) = gR S j 2 from hgB 2 (by decide)] at hw_26
            subst hw_26
            refine lv_isub hx hb (fk_get fk_cX12_visitOne_3 7 rfl) ?_
            refine lv_istore (lv' := [(5, .int (((fF SB 0 33) - (gR S j 2)))), (4, .int (((gR S j 3) + v2))), (3, .int (r_4)), (2, .int (((moF (fF S 0 2) τ C c (gR S j))))), (0, .ref (ad 0)), (1, .int (c))]) hx hb (fk_get fk_cX12_visitOne_3 8 rfl) hl (by decide) rfl (fun ls hl => ?_)
            have jn_27 : ∀ (v4 : Int32) (ls : Array Slot),  (v4 = cl 99 ((boF (moF (fF S 0 2) τ C c (gR S j)) (gR S j)) - gR S j 2)) → lv_has ls 6 [(5, .int (((fF SB 0 33) - (gR S j 2)))), (4, .int (((gR S j 3) + v2))), (3, .int (r_4)), (2, .int (((moF (fF S 0 2) τ C c (gR S j))))), (0, .ref (ad 0)), (1, .int (c))] → W p l e ({ frames := 7, cells := 0, slots := 0, locals := 201 } : Room) s m args below meth c₀ H_23 locs_24 0 0 Q (F0 m 207 ls [.int (v4), .int (4), .int (c), .ref (ad 0)]) := by
              intro v4 ls hv4 hl
              have hFc := va_self hD hS hA
              refine va_callv (va_runV (As := [.int (c), .int (4), .int (v4)]) (rest := []) ⟨hx, hb, hml, hown, hT⟩ (c_put l G ad SB H_23.size (c) (4) (v4) (((12 * j) + 4)) (n_add (n_mul (rfl) (ej)) (rfl)) (by omega)) (tV 3 hT m6_102 m6_104 mp_31 m1_17 m6_105 rfl rfl (by decide +kernel) ⟨Nat.le_of_ble_eq_true rfl, Nat.le_of_ble_eq_true rfl⟩) ⟨PcW_blind, va_recv hK hP (ci := 14) (q0 := 0) rfl (ix_at (by decide) (cR_0 G ad SB)), PcW_of hP hK hD _⟩ rfl rfl hl.1 rfl (lv_room (Nat.le_of_ble_eq_true rfl)) (fk_get fk_cX12_visitOne_3 22 rfl) ⟨Nat.zero_le _, Nat.zero_le _⟩) hS (fun q _ h => hFc q h) hFc (fun S_30 t_ H locs ht_ hvm_ hw_29 hB_ hz_ hk_ hS => ?_)
              obtain ⟨hP, -, hD1_⟩ := hB_
              rw [ht_] at hP
              have hD : va_D A (wR G ad S_30) := hD1_.weaken (fun k q _ h => hFc q.1 h)
              try dsimp only at hw_29
              subst hw_29
              have hV4 : VR j x S (setA SB 1 (upd (fA SB 1) (((12 * j) + 4)) (v4))) := hVB.put (k := 4) (by decide) _
              have h15 : fF SB 0 15 = fF S 0 15 := hVB.2.2.1 15 (by decide) (by decide) (by decide)
              have hg4 : VS (setA SB 1 (upd (fA SB 1) (((12 * j) + 4)) (v4))) j (upd (upd (upd (upd (gR S j) 3 (cl 20 (gR S j 3 + (if letF (gR S j) < (moF (fF S 0 2) τ C c (gR S j)) then -2 else (lstW 3 1 C))))) 5 (nsF (moF (fF S 0 2) τ C c (gR S j)) (gR S j))) 7 (if letF (gR S j) < (moF (fF S 0 2) τ C c (gR S j)) ∧ gR S j 0 = 5 ∧ 3 ≤ (nsF (moF (fF S 0 2) τ C c (gR S j)) (gR S j)) then 1 else gR S j 7)) 4 (cl 99 ((boF (moF (fF S 0 2) τ C c (gR S j)) (gR S j)) - gR S j 2))) := by rw [← hv4]; exact hgB.put 4 _
              refine lv_aload_n hx hb (fk_get fk_cX12_visitOne_3 23 rfl) rfl (lv_at hl 4 rfl) ?_
              refine va_get (D := G.1) (ci := 14) (v := .int ((fF SB 0 15))) (C := RX12) (T := TX12) (N := 49) hx hb hT inX12 hown hK hP 0 (ix_at (by decide) (cR_0 G ad (setA SB 1 (upd (fA SB 1) (((12 * j) + 4)) (v4))))) rfl 15 (by decide) (hT _ m5_116) (fun _ h9 => h9) rfl (fk_get fk_cX12_visitOne_3 24 rfl) ?_
              refine lv_if_ne (tgt := 230) hx hb (fk_get fk_cX12_visitOne_3 25 rfl) (by decide) (fun c_31 => ?_) (fun c_31 => ?_)
              · refine lv_aload_n hx hb (fk_get fk_cX12_visitOne_4 0 rfl) rfl (lv_at hl 4 rfl) ?_
                refine lv_iload_n hx hb (fk_get fk_cX12_visitOne_4 1 rfl) rfl (lv_at hl 5 rfl) ?_
                refine lv_bipush (v := 6) hx hb (fk_get fk_cX12_visitOne_4 2 rfl) (by decide) ?_
                refine lv_aload_n hx hb (fk_get fk_cX12_visitOne_4 3 rfl) rfl (lv_at hl 4 rfl) ?_
                refine lv_iload_n hx hb (fk_get fk_cX12_visitOne_4 4 rfl) rfl (lv_at hl 5 rfl) ?_
                refine lv_bipush (v := 6) hx hb (fk_get fk_cX12_visitOne_4 5 rfl) (by decide) ?_
                refine vp_callSi (W.runV (As := [.int (c), .int (6)]) (rest := [.int (6), .int (c), .ref (ad 0)]) ⟨hx, hb, hml, hown, hT⟩ (c_of0 l G ad (setA SB 1 (upd (fA SB 1) (((12 * j) + 4)) (v4))) H.size (c) (6) (((12 * j) + 6)) (n_add (n_mul (rfl) (ej)) (rfl)) (by omega)) (tV 2 hT m6_119 m6_121 mp_34 m1_17 m6_122 rfl rfl (by decide +kernel) ⟨Nat.le_of_ble_eq_true rfl, Nat.le_of_ble_eq_true rfl⟩) ⟨PcW_blind, va_recv hK hP (ci := 14) (q0 := 0) rfl (ix_at (by decide) (cR_0 G ad (setA SB 1 (upd (fA SB 1) (((12 * j) + 4)) (v4))))), PcW_of hP hK hD _⟩ rfl rfl hl.1 rfl (lv_room (Nat.le_of_ble_eq_true rfl)) (fk_get fk_cX12_visitOne_4 6 rfl) ⟨Nat.zero_le _, Nat.zero_le _⟩) (fun r_32 hw_33 => ?_)
                try dsimp only at hw_33
                have hw_33 : r_32 = nI x := hw_33.trans hV4.2.2.2.2.2
                subst hw_33
                refine lv_iconst (v := 1) hx hb (fk_get fk_cX12_visitOne_4 7 rfl) (by decide) ?_
                refine lv_iadd hx hb (fk_get fk_cX12_visitOne_4 8 rfl) ?_
                rw [show ((nI x) + 1) = (nI (x + 1)) from (nI_1 x)]
                have hFc := va_self hD hS hA
                refine va_callv (va_runV (As := [.int (c), .int (6), .int ((nI (x + 1)))]) (rest := []) ⟨hx, hb, hml, hown, hT⟩ (c_put l G ad (setA SB 1 (upd (fA SB 1) (((12 * j) + 4)) (v4))) H.size (c) (6) ((nI (x + 1))) (((12 * j) + 6)) (n_add (n_mul (rfl) (ej)) (rfl)) (by omega)) (tV 3 hT m6_102 m6_104 mp_31 m1_17 m6_105 rfl rfl (by decide +kernel) ⟨Nat.le_of_ble_eq_true rfl, Nat.le_of_ble_eq_true rfl⟩) ⟨PcW_blind, va_recv hK hP (ci := 14) (q0 := 0) rfl (ix_at (by decide) (cR_0 G ad (setA SB 1 (upd (fA SB 1) (((12 * j) + 4)) (v4))))), PcW_of hP hK hD _⟩ rfl rfl hl.1 rfl (lv_room (Nat.le_of_ble_eq_true rfl)) (fk_get fk_cX12_visitOne_4 9 rfl) ⟨Nat.zero_le _, Nat.zero_le _⟩) hS (fun q _ h => hFc q h) hFc (fun S_36 t_ H locs ht_ hvm_ hw_35 hB_ hz_ hk_ hS => ?_)
                obtain ⟨hP, -, hD1_⟩ := hB_
                rw [ht_] at hP
                have hD : va_D A (wR G ad S_36) := hD1_.weaken (fun k q _ h => hFc q.1 h)
                try dsimp only at hw_35
                subst hw_35
                subst hQ
                have hpost : (∃ y, VR j y S (setA (setA SB 1 (upd (fA SB 1) (((12 * j) + 4)) (v4))) 1 (upd (fA (setA SB 1 (upd (fA SB 1) (((12 * j) + 4)) (v4))) 1) (((12 * j) + 6)) ((nI (x + 1))))) ∧ y ≤ x + 1 ∧ (fF S 0 15 = 0 → x ≤ 9999 → y ≤ 9999)) ∧ VS (setA (setA SB 1 (upd (fA SB 1) (((12 * j) + 4)) (v4))) 1 (upd (fA (setA SB 1 (upd (fA SB 1) (((12 * j) + 4)) (v4))) 1) (((12 * j) + 6)) ((nI (x + 1))))) j (visF (fF S 0 15) (lstW 3 1 C) (moF (fF S 0 2) τ C c (gR S j)) (gR S j)) ∧ fF (setA (setA SB 1 (upd (fA SB 1) (((12 * j) + 4)) (v4))) 1 (upd (fA (setA SB 1 (upd (fA SB 1) (((12 * j) + 4)) (v4))) 1) (((12 * j) + 6)) ((nI (x + 1))))) 0 33 = (boF (moF (fF S 0 2) τ C c (gR S j)) (gR S j)) ∧ fF (setA (setA SB 1 (upd (fA SB 1) (((12 * j) + 4)) (v4))) 1 (upd (fA (setA SB 1 (upd (fA SB 1) (((12 * j) + 4)) (v4))) 1) (((12 * j) + 6)) ((nI (x + 1))))) 0 34 = askF (gR S j) ∧ fF (setA (setA SB 1 (upd (fA SB 1) (((12 * j) + 4)) (v4))) 1 (upd (fA (setA SB 1 (upd (fA SB 1) (((12 * j) + 4)) (v4))) 1) (((12 * j) + 6)) ((nI (x + 1))))) 0 35 = askF (gR S j) + (moF (fF S 0 2) τ C c (gR S j)) := by
                  first
                  | exact ⟨⟨x + 1, hV4.put6, by omega, fun q _ => absurd (h15.trans q) (by assumption)⟩, by rw [vis_u]; exact vs_6 (g := gR S j) hg4 hx6 hx30 (Or.inl (fun q => absurd (h15.trans q) (by assumption))), hfB⟩
                  | exact ⟨⟨x + 1, hV4.put6, by omega, fun _ _ => by omega⟩, by rw [vis_u]; exact vs_6 (g := gR S j) hg4 hx6 hx30 (Or.inr hlt), hfB⟩
                  | exact ⟨⟨x, hV4, by omega, fun _ q => q⟩, by rw [vis_u]; exact vs_n (g := gR S j) hg4 hx6 hx30 (h15.symm.trans (by assumption)) (by assumption) rfl, hfB⟩
                exact W.vret hx hb hr (fun t_ ht_ hW_ => ⟨⟨(setA (setA SB 1 (upd (fA SB 1) (((12 * j) + 4)) (v4))) 1 (upd (fA (setA SB 1 (upd (fA SB 1) (((12 * j) + 4)) (v4))) 1) (((12 * j) + 6)) ((nI (x + 1))))), rfl, hpost, by rw [ht_]; exact hP, va_K.moved hW_.alike hK, hD⟩, hS.F ht_⟩) hS.2.2 (fk_get fk_cX12_visitOne_4 10 rfl)
              refine lv_aload_n hx hb (fk_get fk_cX12_visitOne_3 26 rfl) rfl (lv_at hl 4 rfl) ?_
              refine lv_iload_n hx hb (fk_get fk_cX12_visitOne_3 27 rfl) rfl (lv_at hl 5 rfl) ?_
              refine lv_bipush (v := 6) hx hb (fk_get fk_cX12_visitOne_3 28 rfl) (by decide) ?_
              refine vp_callSi (W.runV (As := [.int (c), .int (6)]) (rest := []) ⟨hx, hb, hml, hown, hT⟩ (c_of0 l G ad (setA SB 1 (upd (fA SB 1) (((12 * j) + 4)) (v4))) H.size (c) (6) (((12 * j) + 6)) (n_add (n_mul (rfl) (ej)) (rfl)) (by omega)) (tV 2 hT m6_119 m6_121 mp_34 m1_17 m6_122 rfl rfl (by decide +kernel) ⟨Nat.le_of_ble_eq_true rfl, Nat.le_of_ble_eq_true rfl⟩) ⟨PcW_blind, va_recv hK hP (ci := 14) (q0 := 0) rfl (ix_at (by decide) (cR_0 G ad (setA SB 1 (upd (fA SB 1) (((12 * j) + 4)) (v4))))), PcW_of hP hK hD _⟩ rfl rfl hl.1 rfl (lv_room (Nat.le_of_ble_eq_true rfl)) (fk_get fk_cX12_visitOne_3 29 rfl) ⟨Nat.zero_le _, Nat.zero_le _⟩) (fun r_37 hw_38 => ?_)
              try dsimp only at hw_38
              have hw_38 : r_37 = nI x := hw_38.trans hV4.2.2.2.2.2
              subst hw_38
              refine lv_sipush (v := 9999) hx hb (fk_get fk_cX12_visitOne_3 30 rfl) (by decide) ?_
              refine lv_icmp_ge (tgt := 246) hx hb (fk_get fk_cX12_visitOne_3 31 rfl) (by decide) (fun c_39 => ?_) (fun c_39 => ?_)
              · subst hQ
                have hpost : (∃ y, VR j y S (setA SB 1 (upd (fA SB 1) (((12 * j) + 4)) (v4))) ∧ y ≤ x + 1 ∧ (fF S 0 15 = 0 → x ≤ 9999 → y ≤ 9999)) ∧ VS (setA SB 1 (upd (fA SB 1) (((12 * j) + 4)) (v4))) j (visF (fF S 0 15) (lstW 3 1 C) (moF (fF S 0 2) τ C c (gR S j)) (gR S j)) ∧ fF (setA SB 1 (upd (fA SB 1) (((12 * j) + 4)) (v4))) 0 33 = (boF (moF (fF S 0 2) τ C c (gR S j)) (gR S j)) ∧ fF (setA SB 1 (upd (fA SB 1) (((12 * j) + 4)) (v4))) 0 34 = askF (gR S j) ∧ fF (setA SB 1 (upd (fA SB 1) (((12 * j) + 4)) (v4))) 0 35 = askF (gR S j) + (moF (fF S 0 2) τ C c (gR S j)) := by
                  first
                  | exact ⟨⟨x + 1, hV4.put6, by omega, fun q _ => absurd (h15.trans q) (by assumption)⟩, by rw [vis_u]; exact vs_6 (g := gR S j) hg4 hx6 hx30 (Or.inl (fun q => absurd (h15.trans q) (by assumption))), hfB⟩
                  | exact ⟨⟨x + 1, hV4.put6, by omega, fun _ _ => by omega⟩, by rw [vis_u]; exact vs_6 (g := gR S j) hg4 hx6 hx30 (Or.inr hlt), hfB⟩
                  | exact ⟨⟨x, hV4, by omega, fun _ q => q⟩, by rw [vis_u]; exact vs_n (g := gR S j) hg4 hx6 hx30 (h15.symm.trans (by assumption)) (by assumption) rfl, hfB⟩
                exact W.vret hx hb hr (fun t_ ht_ hW_ => ⟨⟨(setA SB 1 (upd (fA SB 1) (((12 * j) + 4)) (v4))), rfl, hpost, by rw [ht_]; exact hP, va_K.moved hW_.alike hK, hD⟩, hS.F ht_⟩) hS.2.2 (fk_get fk_cX12_visitOne_4 10 rfl)
              have hlt : x < 9999 := Nat.lt_of_not_le (fun w => c_39 ((nI_leI (a := 9999) (b := x) (by omega) (by omega)).mpr w))
              refine lv_aload_n hx hb (fk_get fk_cX12_visitOne_4 0 rfl) rfl (lv_at hl 4 rfl) ?_
              refine lv_iload_n hx hb (fk_get fk_cX12_visitOne_4 1 rfl) rfl (lv_at hl 5 rfl) ?_
              refine lv_bipush (v := 6) hx hb (fk_get fk_cX12_visitOne_4 2 rfl) (by decide) ?_
              refine lv_aload_n hx hb (fk_get fk_cX12_visitOne_4 3 rfl) rfl (lv_at hl 4 rfl) ?_
              refine lv_iload_n hx hb (fk_get fk_cX12_visitOne_4 4 rfl) rfl (lv_at hl 5 rfl) ?_
              refine lv_bipush (v := 6) hx hb (fk_get fk_cX12_visitOne_4 5 rfl) (by decide) ?_
              refine vp_callSi (W.runV (As := [.int (c), .int (6)]) (rest := [.int (6), .int (c), .ref (ad 0)]) ⟨hx, hb, hml, hown, hT⟩ (c_of0 l G ad (setA SB 1 (upd (fA SB 1) (((12 * j) + 4)) (v4))) H.size (c) (6) (((12 * j) + 6)) (n_add (n_mul (rfl) (ej)) (rfl)) (by omega)) (tV 2 hT m6_119 m6_121 mp_34 m1_17 m6_122 rfl rfl (by decide +kernel) ⟨Nat.le_of_ble_eq_true rfl, Nat.le_of_ble_eq_true rfl⟩) ⟨PcW_blind, va_recv hK hP (ci := 14) (q0 := 0) rfl (ix_at (by decide) (cR_0 G ad (setA SB 1 (upd (fA SB 1) (((12 * j) + 4)) (v4))))), PcW_of hP hK hD _⟩ rfl rfl hl.1 rfl (lv_room (Nat.le_of_ble_eq_true rfl)) (fk_get fk_cX12_visitOne_4 6 rfl) ⟨Nat.zero_le _, Nat.zero_le _⟩) (fun r_40 hw_41 => ?_)
              try dsimp only at hw_41
              have hw_41 : r_40 = nI x := hw_41.trans hV4.2.2.2.2.2
              subst hw_41
              refine lv_iconst (v := 1) hx hb (fk_get fk_cX12_visitOne_4 7 rfl) (by decide) ?_
              refine lv_iadd hx hb (fk_get fk_cX12_visitOne_4 8 rfl) ?_
              rw [show ((nI x) + 1) = (nI (x + 1)) from (nI_1 x)]
              have hFc := va_self hD hS hA
              refine va_callv (va_runV (As := [.int (c), .int (6), .int ((nI (x + 1)))]) (rest := []) ⟨hx, hb, hml, hown, hT⟩ (c_put l G ad (setA SB 1 (upd (fA SB 1) (((12 * j) + 4)) (v4))) H.size (c) (6) ((nI (x + 1))) (((12 * j) + 6)) (n_add (n_mul (rfl) (ej)) (rfl)) (by omega)) (tV 3 hT m6_102 m6_104 mp_31 m1_17 m6_105 rfl rfl (by decide +kernel) ⟨Nat.le_of_ble_eq_true rfl, Nat.le_of_ble_eq_true rfl⟩) ⟨PcW_blind, va_recv hK hP (ci := 14) (q0 := 0) rfl (ix_at (by decide) (cR_0 G ad (setA SB 1 (upd (fA SB 1) (((12 * j) + 4)) (v4))))), PcW_of hP hK hD _⟩ rfl rfl hl.1 rfl (lv_room (Nat.le_of_ble_eq_true rfl)) (fk_get fk_cX12_visitOne_4 9 rfl) ⟨Nat.zero_le _, Nat.zero_le _⟩) hS (fun q _ h => hFc q h) hFc (fun S_44 t_ H locs ht_ hvm_ hw_43 hB_ hz_ hk_ hS => ?_)
              obtain ⟨hP, -, hD1_⟩ := hB_
              rw [ht_] at hP
              have hD : va_D A (wR G ad S_44) := hD1_.weaken (fun k q _ h => hFc q.1 h)
              try dsimp only at hw_43
              subst hw_43
              subst hQ
              have hpost : (∃ y, VR j y S (setA (setA SB 1 (upd (fA SB 1) (((12 * j) + 4)) (v4))) 1 (upd (fA (setA SB 1 (upd (fA SB 1) (((12 * j) + 4)) (v4))) 1) (((12 * j) + 6)) ((nI (x + 1))))) ∧ y ≤ x + 1 ∧ (fF S 0 15 = 0 → x ≤ 9999 → y ≤ 9999)) ∧ VS (setA (setA SB 1 (upd (fA SB 1) (((12 * j) + 4)) (v4))) 1 (upd (fA (setA SB 1 (upd (fA SB 1) (((12 * j) + 4)) (v4))) 1) (((12 * j) + 6)) ((nI (x + 1))))) j (visF (fF S 0 15) (lstW 3 1 C) (moF (fF S 0 2) τ C c (gR S j)) (gR S j)) ∧ fF (setA (setA SB 1 (upd (fA SB 1) (((12 * j) + 4)) (v4))) 1 (upd (fA (setA SB 1 (upd (fA SB 1) (((12 * j) + 4)) (v4))) 1) (((12 * j) + 6)) ((nI (x + 1))))) 0 33 = (boF (moF (fF S 0 2) τ C c (gR S j)) (gR S j)) ∧ fF (setA (setA SB 1 (upd (fA SB 1) (((12 * j) + 4)) (v4))) 1 (upd (fA (setA SB 1 (upd (fA SB 1) (((12 * j) + 4)) (v4))) 1) (((12 * j) + 6)) ((nI (x + 1))))) 0 34 = askF (gR S j) ∧ fF (setA (setA SB 1 (upd (fA SB 1) (((12 * j) + 4)) (v4))) 1 (upd (fA (setA SB 1 (upd (fA SB 1) (((12 * j) + 4)) (v4))) 1) (((12 * j) + 6)) ((nI (x + 1))))) 0 35 = askF (gR S j) + (moF (fF S 0 2) τ C c (gR S j)) := by
                first
                | exact ⟨⟨x + 1, hV4.put6, by omega, fun q _ => absurd (h15.trans q) (by assumption)⟩, by rw [vis_u]; exact vs_6 (g := gR S j) hg4 hx6 hx30 (Or.inl (fun q => absurd (h15.trans q) (by assumption))), hfB⟩
                | exact ⟨⟨x + 1, hV4.put6, by omega, fun _ _ => by omega⟩, by rw [vis_u]; exact vs_6 (g := gR S j) hg4 hx6 hx30 (Or.inr hlt), hfB⟩
                | exact ⟨⟨x, hV4, by omega, fun _ q => q⟩, by rw [vis_u]; exact vs_n (g := gR S j) hg4 hx6 hx30 (h15.symm.trans (by assumption)) (by assumption) rfl, hfB⟩
              exact W.vret hx hb hr (fun t_ ht_ hW_ => ⟨⟨(setA (setA SB 1 (upd (fA SB 1) (((12 * j) + 4)) (v4))) 1 (upd (fA (setA SB 1 (upd (fA SB 1) (((12 * j) + 4)) (v4))) 1) (((12 * j) + 6)) ((nI (x + 1))))), rfl, hpost, by rw [ht_]; exact hP, va_K.moved hW_.alike hK, hD⟩, hS.F ht_⟩) hS.2.2 (fk_get fk_cX12_visitOne_4 10 rfl)
            refine lv_aload_n hx hb (fk_get fk_cX12_visitOne_3 9 rfl) rfl (lv_at hl 4 rfl) ?_
            refine lv_iload_n hx hb (fk_get fk_cX12_visitOne_3 10 rfl) rfl (lv_at hl 5 rfl) ?_
            refine lv_iconst (v := 4) hx hb (fk_get fk_cX12_visitOne_3 11 rfl) (by decide) ?_
            refine lv_iload hx hb (fk_get fk_cX12_visitOne_3 12 rfl) (lv_at hl 0 rfl) ?_
            refine lv_if_ge (tgt := 193) hx hb (fk_get fk_cX12_visitOne_3 13 rfl) (by decide) (fun c_45 => ?_) (fun c_45 => ?_)
            · refine lv_iload hx hb (fk_get fk_cX12_visitOne_3 16 rfl) (lv_at hl 0 rfl) ?_
              refine lv_bipush (v := 99) hx hb (fk_get fk_cX12_visitOne_3 17 rfl) (by decide) ?_
              refine lv_icmp_le (tgt := 205) hx hb (fk_get fk_cX12_visitOne_3 18 rfl) (by decide) (fun c_46 => ?_) (fun c_46 => ?_)
              · refine lv_iload hx hb (fk_get fk_cX12_visitOne_3 21 rfl) (lv_at hl 0 rfl) ?_
                exact jn_27 ((((fF SB 0 33) - (gR S j 2)))) ls ((by rw [← hfB.1]; first | exact cl_of (Or.inl ⟨by first | assumption | exact Int32.not_le.mp (by assumption), rfl⟩) | exact cl_of (Or.inr (Or.inl ⟨by first | assumption | exact Int32.not_lt.mpr (by assumption), by assumption, rfl⟩)) | exact cl_of (Or.inr (Or.inr ⟨by first | assumption | exact Int32.not_lt.mpr (by assumption), by assumption, rfl⟩)))) (lv_sub hl [0, 1, 2, 3, 4, 5] rfl)
              refine lv_bipush (v := 99) hx hb (fk_get fk_cX12_visitOne_3 19 rfl) (by decide) ?_
              refine lv_goto (tgt := 207) hx hb (fk_get fk_cX12_visitOne_3 20 rfl) (by decide) ?_
              exact jn_27 ((99)) ls ((by rw [← hfB.1]; first | exact cl_of (Or.inl ⟨by first | assumption | exact Int32.not_le.mp (by assumption), rfl⟩) | exact cl_of (Or.inr (Or.inl ⟨by first | assumption | exact Int32.not_lt.mpr (by assumption), by assumption, rfl⟩)) | exact cl_of (Or.inr (Or.inr ⟨by first | assumption | exact Int32.not_lt.mpr (by assumption), by assumption, rfl⟩)))) (lv_sub hl [0, 1, 2, 3, 4, 5] rfl)
            refine lv_iconst (v := 0) hx hb (fk_get fk_cX12_visitOne_3 14 rfl) (by decide) ?_
            refine lv_goto (tgt := 207) hx hb (fk_get fk_cX12_visitOne_3 15 rfl) (by decide) ?_
            exact jn_27 ((0)) ls ((by rw [← hfB.1]; first | exact cl_of (Or.inl ⟨by first | assumption | exact Int32.not_le.mp (by assumption), rfl⟩) | exact cl_of (Or.inr (Or.inl ⟨by first | assumption | exact Int32.not_lt.mpr (by assumption), by assumption, rfl⟩)) | exact cl_of (Or.inr (Or.inr ⟨by first | assumption | exact Int32.not_lt.mpr (by assumption), by assumption, rfl⟩)))) (lv_sub hl [0, 1, 2, 3, 4, 5] rfl)
          refine lv_iload_n hx hb (fk_get fk_cX12_visitOne_2 14 rfl) rfl (lv_at hl 1 rfl) ?_
          refine lv_if_eq (tgt := 168) hx hb (fk_get fk_cX12_visitOne_2 15 rfl) (by decide) (fun c_47 => ?_) (fun c_47 => ?_)
          · have hN := no_f hno c_47
            exact jn_21  (SA) _ _ ls ((by first | exact hVA | exact hVA.put (k := 7) (by decide) _)) ((by first | exact hgA.same (if_neg (fun q => hN q.1)) | exact hgA.same (if_neg (fun q => absurd q.2.1 (by assumption))) | exact hgA.same (if_neg (fun q => absurd q.2.2 (by first | assumption | exact Int32.not_le.mpr (by assumption)))) | exact hgA.p7 ⟨hY, by first | assumption | exact Decidable.not_not.mp (by assumption), by first | assumption | exact Int32.not_lt.mp (by assumption)⟩)) (hfA) hP hD hS (lv_sub hl [0, 1, 2, 3, 4] rfl)
          have hY := no_t hno c_47
          refine lv_aload_n hx hb (fk_get fk_cX12_visitOne_2 16 rfl) rfl (lv_at hl 3 rfl) ?_
          refine lv_iload_n hx hb (fk_get fk_cX12_visitOne_2 17 rfl) rfl (lv_at hl 4 rfl) ?_
          refine lv_iconst (v := 0) hx hb (fk_get fk_cX12_visitOne_2 18 rfl) (by decide) ?_
          refine vp_callSi (W.runV (As := [.int (c), .int (0)]) (rest := []) ⟨hx, hb, hml, hown, hT⟩ (c_of0 l G ad SA H_19.size (c) (0) (((12 * j) + 0)) (n_add (n_mul (rfl) (ej)) (rfl)) (by omega)) (tV 2 hT m6_119 m6_121 mp_34 m1_17 m6_122 rfl rfl (by decide +kernel) ⟨Nat.le_of_ble_eq_true rfl, Nat.le_of_ble_eq_true rfl⟩) ⟨PcW_blind, va_recv hK hP (ci := 14) (q0 := 0) rfl (ix_at (by decide) (cR_0 G ad SA)), PcW_of hP hK hD _⟩ rfl rfl hl.1 rfl (lv_room (Nat.le_of_ble_eq_true rfl)) (fk_get fk_cX12_visitOne_2 19 rfl) ⟨Nat.zero_le _, Nat.zero_le _⟩) (fun r_48 hw_49 => ?_)
          try dsimp only at hw_49
          rw [show fA SA 1 (12 * j + 0) = gR S j 0 from hgA 0 (by decide)] at hw_49
          subst hw_49
          refine lv_iconst (v := 5) hx hb (fk_get fk_cX12_visitOne_2 20 rfl) (by decide) ?_
          refine lv_icmp_ne (tgt := 168) hx hb (fk_get fk_cX12_visitOne_2 21 rfl) (by decide) (fun c_50 => ?_) (fun c_50 => ?_)
          · exact jn_21  (SA) _ _ ls ((by first | exact hVA | exact hVA.put (k := 7) (by decide) _)) ((by first | exact hgA.same (if_neg (fun q => hN q.1)) | exact hgA.same (if_neg (fun q => absurd q.2.1 (by assumption))) | exact hgA.same (if_neg (fun q => absurd q.2.2 (by first | assumption | exact Int32.not_le.mpr (by assumption)))) | exact hgA.p7 ⟨hY, by first | assumption | exact Decidable.not_not.mp (by assumption), by first | assumption | exact Int32.not_lt.mp (by assumption)⟩)) (hfA) hP hD hS (lv_sub hl [0, 1, 2, 3, 4] rfl)
          refine lv_aload_n hx hb (fk_get fk_cX12_visitOne_2 22 rfl) rfl (lv_at hl 3 rfl) ?_
          refine lv_iload_n hx hb (fk_get fk_cX12_visitOne_2 23 rfl) rfl (lv_at hl 4 rfl) ?_
          refine lv_iconst (v := 5) hx hb (fk_get fk_cX12_visitOne_2 24 rfl) (by decide) ?_
          refine vp_callSi (W.runV (As := [.int (c), .int (5)]) (rest := []) ⟨hx, hb, hml, hown, hT⟩ (c_of0 l G ad SA H_19.size (c) (5) (((12 * j) + 5)) (n_add (n_mul (rfl) (ej)) (rfl)) (by omega)) (tV 2 hT m6_119 m6_121 mp_34 m1_17 m6_122 rfl rfl (by decide +kernel) ⟨Nat.le_of_ble_eq_true rfl, Nat.le_of_ble_eq_true rfl⟩) ⟨PcW_blind, va_recv hK hP (ci := 14) (q0 := 0) rfl (ix_at (by decide) (cR_0 G ad SA)), PcW_of hP hK hD _⟩ rfl rfl hl.1 rfl (lv_room (Nat.le_of_ble_eq_true rfl)) (fk_get fk_cX12_visitOne_2 25 rfl) ⟨Nat.zero_le _, Nat.zero_le _⟩) (fun r_51 hw_52 => ?_)
          try dsimp only at hw_52
          rw [show fA SA 1 (12 * j + 5) = (nsF (moF (fF S 0 2) τ C c (gR S j)) (gR S j)) from hgA 5 (by decide)] at hw_52
          subst hw_52
          refine lv_iconst (v := 3) hx hb (fk_get fk_cX12_visitOne_2 26 rfl) (by decide) ?_
          refine lv_icmp_lt (tgt := 168) hx hb (fk_get fk_cX12_visitOne_2 27 rfl) (by decide) (fun c_53 => ?_) (fun c_53 => ?_)
          · exact jn_21  (SA) _ _ ls ((by first | exact hVA | exact hVA.put (k := 7) (by decide) _)) ((by first | exact hgA.same (if_neg (fun q => hN q.1)) | exact hgA.same (if_neg (fun q => absurd q.2.1 (by assumption))) | exact hgA.same (if_neg (fun q => absurd q.2.2 (by first | assumption | exact Int32.not_le.mpr (by assumption)))) | exact hgA.p7 ⟨hY, by first | assumption | exact Decidable.not_not.mp (by assumption), by first | assumption | exact Int32.not_lt.mp (by assumption)⟩)) (hfA) hP hD hS (lv_sub hl [0, 1, 2, 3, 4] rfl)
          refine lv_aload_n hx hb (fk_get fk_cX12_visitOne_2 28 rfl) rfl (lv_at hl 3 rfl) ?_
          refine lv_iload_n hx hb (fk_get fk_cX12_visitOne_2 29 rfl) rfl (lv_at hl 4 rfl) ?_
          refine lv_bipush (v := 7) hx hb (fk_get fk_cX12_visitOne_2 30 rfl) (by decide) ?_
          refine lv_iconst (v := 1) hx hb (fk_get fk_cX12_visitOne_2 31 rfl) (by decide) ?_
          have hFc := va_self hD hS hA
          refine va_callv (va_runV (As := [.int (c), .int (7), .int (1)]) (rest := []) ⟨hx, hb, hml, hown, hT⟩ (c_put l G ad SA H_19.size (c) (7) (1) (((12 * j) + 7)) (n_add (n_mul (rfl) (ej)) (rfl)) (by omega)) (tV 3 hT m6_102 m6_104 mp_31 m1_17 m6_105 rfl rfl (by decide +kernel) ⟨Nat.le_of_ble_eq_true rfl, Nat.le_of_ble_eq_true rfl⟩) ⟨PcW_blind, va_recv hK hP (ci := 14) (q0 := 0) rfl (ix_at (by decide) (cR_0 G ad SA)), PcW_of hP hK hD _⟩ rfl rfl hl.1 rfl (lv_room (Nat.le_of_ble_eq_true rfl)) (fk_get fk_cX12_visitOne_3 0 rfl) ⟨Nat.zero_le _, Nat.zero_le _⟩) hS (fun q _ h => hFc q h) hFc (fun S_56 t_ H locs ht_ hvm_ hw_55 hB_ hz_ hk_ hS => ?_)
          obtain ⟨hP, -, hD1_⟩ := hB_
          rw [ht_] at hP
          have hD : va_D A (wR G ad S_56) := hD1_.weaken (fun k q _ h => hFc q.1 h)
          try dsimp only at hw_55
          subst hw_55
          exact jn_21  (setA SA 1 (upd (fA SA 1) (((12 * j) + 7)) (1))) _ _ ls ((by first | exact hVA | exact hVA.put (k := 7) (by decide) _)) ((by first | exact hgA.same (if_neg (fun q => hN q.1)) | exact hgA.same (if_neg (fun q => absurd q.2.1 (by assumption))) | exact hgA.same (if_neg (fun q => absurd q.2.2 (by first | assumption | exact Int32.not_le.mpr (by assumption)))) | exact hgA.p7 ⟨hY, by first | assumption | exact Decidable.not_not.mp (by assumption), by first | assumption | exact Int32.not_lt.mp (by assumption)⟩)) (hfA) hP hD hS (lv_sub hl [0, 1, 2, 3, 4] rfl)
        have hV1 : VR j x S (setA (setF (setF (setF S_6 0 34 ((askF (gR S j)))) 0 35 (((askF (gR S j)) + ((moF (fF S 0 2) τ C c (gR S j)))))) 0 33 (v1)) 1 (upd (fA (setF (setF (setF S_6 0 34 ((askF (gR S j)))) 0 35 (((askF (gR S j)) + ((moF (fF S 0 2) τ C c (gR S j)))))) 0 33 (v1)) 1) (((12 * j) + 3)) (v3))) := hVc.put (k := 3) (by decide) _
        have hg3 : VS (setA (setF (setF (setF S_6 0 34 ((askF (gR S j)))) 0 35 (((askF (gR S j)) + ((moF (fF S 0 2) τ C c (gR S j)))))) 0 33 (v1)) 1 (upd (fA (setF (setF (setF S_6 0 34 ((askF (gR S j)))) 0 35 (((askF (gR S j)) + ((moF (fF S 0 2) τ C c (gR S j)))))) 0 33 (v1)) 1) (((12 * j) + 3)) (v3))) j (upd (gR S j) 3 (cl 20 (gR S j 3 + (if letF (gR S j) < (moF (fF S 0 2) τ C c (gR S j)) then -2 else (lstW 3 1 C))))) := by rw [← hv3]; exact hg0.put 3 _
        refine lv_iload_n hx hb (fk_get fk_cX12_visitOne_1 28 rfl) rfl (lv_at hl 1 rfl) ?_
        refine lv_if_eq (tgt := 136) hx hb (fk_get fk_cX12_visitOne_1 29 rfl) (by decide) (fun c_57 => ?_) (fun c_57 => ?_)
        · have hN := no_f hno c_57
          exact jn_17  (setA (setF (setF (setF S_6 0 34 ((askF (gR S j)))) 0 35 (((askF (gR S j)) + ((moF (fF S 0 2) τ C c (gR S j)))))) 0 33 (v1)) 1 (upd (fA (setF (setF (setF S_6 0 34 ((askF (gR S j)))) 0 35 (((askF (gR S j)) + ((moF (fF S 0 2) τ C c (gR S j)))))) 0 33 (v1)) 1) (((12 * j) + 3)) (v3))) _ _ ls ((by first | exact hV1 | exact hV1.put (k := 5) (by decide) _)) ((by first | exact hg3.same (ns_n (Or.inl hN)) | exact hg3.same (ns_n (Or.inr (by first | assumption | exact Int32.not_lt.mpr (by assumption)))) | (rw [ns_y hY (by first | assumption | exact Int32.not_le.mp (by assumption))]; exact hg3.put 5 _))) (hf0) hP hD hS (lv_sub hl [0, 1, 2, 3, 4] rfl)
        have hY := no_t hno c_57
        refine lv_aload_n hx hb (fk_get fk_cX12_visitOne_1 30 rfl) rfl (lv_at hl 3 rfl) ?_
        refine lv_iload_n hx hb (fk_get fk_cX12_visitOne_1 31 rfl) rfl (lv_at hl 4 rfl) ?_
        refine lv_iconst (v := 5) hx hb (fk_get fk_cX12_visitOne_2 0 rfl) (by decide) ?_
        refine vp_callSi (W.runV (As := [.int (c), .int (5)]) (rest := []) ⟨hx, hb, hml, hown, hT⟩ (c_of0 l G ad (setA (setF (setF (setF S_6 0 34 ((askF (gR S j)))) 0 35 (((askF (gR S j)) + ((moF (fF S 0 2) τ C c (gR S j)))))) 0 33 (v1)) 1 (upd (fA (setF (setF (setF S_6 0 34 ((askF (gR S j)))) 0 35 (((askF (gR S j)) + ((moF (fF S 0 2) τ C c (gR S j)))))) 0 33 (v1)) 1) (((12 * j) + 3)) (v3))) H.size (c) (5) (((12 * j) + 5)) (n_add (n_mul (rfl) (ej)) (rfl)) (by omega)) (tV 2 hT m6_119 m6_121 mp_34 m1_17 m6_122 rfl rfl (by decide +kernel) ⟨Nat.le_of_ble_eq_true rfl, Nat.le_of_ble_eq_true rfl⟩) ⟨PcW_blind, va_recv hK hP (ci := 14) (q0 := 0) rfl (ix_at (by decide) (cR_0 G ad (setA (setF (setF (setF S_6 0 34 ((askF (gR S j)))) 0 35 (((askF (gR S j)) + ((moF (fF S 0 2) τ C c (gR S j)))))) 0 33 (v1)) 1 (upd (fA (setF (setF (setF S_6 0 34 ((askF (gR S j)))) 0 35 (((askF (gR S j)) + ((moF (fF S 0 2) τ C c (gR S j)))))) 0 33 (v1)) 1) (((12 * j) + 3)) (v3))))), PcW_of hP hK hD _⟩ rfl rfl hl.1 rfl (lv_room (Nat.le_of_ble_eq_true rfl)) (fk_get fk_cX12_visitOne_2 1 rfl) ⟨Nat.zero_le _, Nat.zero_le _⟩) (fun r_58 hw_59 => ?_)
        try dsimp only at hw_59
        rw [show fA (setA (setF (setF (setF S_6 0 34 ((askF (gR S j)))) 0 35 (((askF (gR S j)) + ((moF (fF S 0 2) τ C c (gR S j)))))) 0 33 (v1)) 1 (upd (fA (setF (setF (setF S_6 0 34 ((askF (gR S j)))) 0 35 (((askF (gR S j)) + ((moF (fF S 0 2) τ C c (gR S j)))))) 0 33 (v1)) 1) (((12 * j) + 3)) (v3))) 1 (12 * j + 5) = gR S j 5 from hg3 5 (by decide)] at hw_59
        subst hw_59
        refine lv_bipush (v := 99) hx hb (fk_get fk_cX12_visitOne_2 2 rfl) (by decide) ?_
        refine lv_icmp_ge (tgt := 136) hx hb (fk_get fk_cX12_visitOne_2 3 rfl) (by decide) (fun c_60 => ?_) (fun c_60 => ?_)
        · exact jn_17  (setA (setF (setF (setF S_6 0 34 ((askF (gR S j)))) 0 35 (((askF (gR S j)) + ((moF (fF S 0 2) τ C c (gR S j)))))) 0 33 (v1)) 1 (upd (fA (setF (setF (setF S_6 0 34 ((askF (gR S j)))) 0 35 (((askF (gR S j)) + ((moF (fF S 0 2) τ C c (gR S j)))))) 0 33 (v1)) 1) (((12 * j) + 3)) (v3))) _ _ ls ((by first | exact hV1 | exact hV1.put (k := 5) (by decide) _)) ((by first | exact hg3.same (ns_n (Or.inl hN)) | exact hg3.same (ns_n (Or.inr (by first | assumption | exact Int32.not_lt.mpr (by assumption)))) | (rw [ns_y hY (by first | assumption | exact Int32.not_le.mp (by assumption))]; exact hg3.put 5 _))) (hf0) hP hD hS (lv_sub hl [0, 1, 2, 3, 4] rfl)
        refine lv_aload_n hx hb (fk_get fk_cX12_visitOne_2 4 rfl) rfl (lv_at hl 3 rfl) ?_
        refine lv_iload_n hx hb (fk_get fk_cX12_visitOne_2 5 rfl) rfl (lv_at hl 4 rfl) ?_
        refine lv_iconst (v := 5) hx hb (fk_get fk_cX12_visitOne_2 6 rfl) (by decide) ?_
        refine lv_aload_n hx hb (fk_get fk_cX12_visitOne_2 7 rfl) rfl (lv_at hl 3 rfl) ?_
        refine lv_iload_n hx hb (fk_get fk_cX12_visitOne_2 8 rfl) rfl (lv_at hl 4 rfl) ?_
        refine lv_iconst (v := 5) hx hb (fk_get fk_cX12_visitOne_2 9 rfl) (by decide) ?_
        refine vp_callSi (W.runV (As := [.int (c), .int (5)]) (rest := [.int (5), .int (c), .ref (ad 0)]) ⟨hx, hb, hml, hown, hT⟩ (c_of0 l G ad (setA (setF (setF (setF S_6 0 34 ((askF (gR S j)))) 0 35 (((askF (gR S j)) + ((moF (fF S 0 2) τ C c (gR S j)))))) 0 33 (v1)) 1 (upd (fA (setF (setF (setF S_6 0 34 ((askF (gR S j)))) 0 35 (((askF (gR S j)) + ((moF (fF S 0 2) τ C c (gR S j)))))) 0 33 (v1)) 1) (((12 * j) + 3)) (v3))) H.size (c) (5) (((12 * j) + 5)) (n_add (n_mul (rfl) (ej)) (rfl)) (by omega)) (tV 2 hT m6_119 m6_121 mp_34 m1_17 m6_122 rfl rfl (by decide +kernel) ⟨Nat.le_of_ble_eq_true rfl, Nat.le_of_ble_eq_true rfl⟩) ⟨PcW_blind, va_recv hK hP (ci := 14) (q0 := 0) rfl (ix_at (by decide) (cR_0 G ad (setA (setF (setF (setF S_6 0 34 ((askF (gR S j)))) 0 35 (((askF (gR S j)) + ((moF (fF S 0 2) τ C c (gR S j)))))) 0 33 (v1)) 1 (upd (fA (setF (setF (setF S_6 0 34 ((askF (gR S j)))) 0 35 (((askF (gR S j)) + ((moF (fF S 0 2) τ C c (gR S j)))))) 0 33 (v1)) 1) (((12 * j) + 3)) (v3))))), PcW_of hP hK hD _⟩ rfl rfl hl.1 rfl (lv_room (Nat.le_of_ble_eq_true rfl)) (fk_get fk_cX12_visitOne_2 10 rfl) ⟨Nat.zero_le _, Nat.zero_le _⟩) (fun r_61 hw_62 => ?_)
        try dsimp only at hw_62
        rw [show fA (setA (setF (setF (setF S_6 0 34 ((askF (gR S j)))) 0 35 (((askF (gR S j)) + ((moF (fF S 0 2) τ C c (gR S j)))))) 0 33 (v1)) 1 (upd (fA (setF (setF (setF S_6 0 34 ((askF (gR S j)))) 0 35 (((askF (gR S j)) + ((moF (fF S 0 2) τ C c (gR S j)))))) 0 33 (v1)) 1) (((12 * j) + 3)) (v3))) 1 (12 * j + 5) = gR S j 5 from hg3 5 (by decide)] at hw_62
        subst hw_62
        refine lv_iconst (v := 1) hx hb (fk_get fk_cX12_visitOne_2 11 rfl) (by decide) ?_
        refine lv_iadd hx hb (fk_get fk_cX12_visitOne_2 12 rfl) ?_
        have hFc := va_self hD hS hA
        refine va_callv (va_runV (As := [.int (c), .int (5), .int (((gR S j 5) + 1))]) (rest := []) ⟨hx, hb, hml, hown, hT⟩ (c_put l G ad (setA (setF (setF (setF S_6 0 34 ((askF (gR S j)))) 0 35 (((askF (gR S j)) + ((moF (fF S 0 2) τ C c (gR S j)))))) 0 33 (v1)) 1 (upd (fA (setF (setF (setF S_6 0 34 ((askF (gR S j)))) 0 35 (((askF (gR S j)) + ((moF (fF S 0 2) τ C c (gR S j)))))) 0 33 (v1)) 1) (((12 * j) + 3)) (v3))) H.size (c) (5) (((gR S j 5) + 1)) (((12 * j) + 5)) (n_add (n_mul (rfl) (ej)) (rfl)) (by omega)) (tV 3 hT m6_102 m6_104 mp_31 m1_17 m6_105 rfl rfl (by decide +kernel) ⟨Nat.le_of_ble_eq_true rfl, Nat.le_of_ble_eq_true rfl⟩) ⟨PcW_blind, va_recv hK hP (ci := 14) (q0 := 0) rfl (ix_at (by decide) (cR_0 G ad (setA (setF (setF (setF S_6 0 34 ((askF (gR S j)))) 0 35 (((askF (gR S j)) + ((moF (fF S 0 2) τ C c (gR S j)))))) 0 33 (v1)) 1 (upd (fA (setF (setF (setF S_6 0 34 ((askF (gR S j)))) 0 35 (((askF (gR S j)) + ((moF (fF S 0 2) τ C c (gR S j)))))) 0 33 (v1)) 1) (((12 * j) + 3)) (v3))))), PcW_of hP hK hD _⟩ rfl rfl hl.1 rfl (lv_room (Nat.le_of_ble_eq_true rfl)) (fk_get fk_cX12_visitOne_2 13 rfl) ⟨Nat.zero_le _, Nat.zero_le _⟩) hS (fun q _ h => hFc q h) hFc (fun S_65 t_ H locs ht_ hvm_ hw_64 hB_ hz_ hk_ hS => ?_)
        obtain ⟨hP, -, hD1_⟩ := hB_
        rw [ht_] at hP
        have hD : va_D A (wR G ad S_65) := hD1_.weaken (fun k q _ h => hFc q.1 h)
        try dsimp only at hw_64
        subst hw_64
        exact jn_17  (setA (setA (setF (setF (setF S_6 0 34 ((askF (gR S j)))) 0 35 (((askF (gR S j)) + ((moF (fF S 0 2) τ C c (gR S j)))))) 0 33 (v1)) 1 (upd (fA (setF (setF (setF S_6 0 34 ((askF (gR S j)))) 0 35 (((askF (gR S j)) + ((moF (fF S 0 2) τ C c (gR S j)))))) 0 33 (v1)) 1) (((12 * j) + 3)) (v3))) 1 (upd (fA (setA (setF (setF (setF S_6 0 34 ((askF (gR S j)))) 0 35 (((askF (gR S j)) + ((moF (fF S 0 2) τ C c (gR S j)))))) 0 33 (v1)) 1 (upd (fA (setF (setF (setF S_6 0 34 ((askF (gR S j)))) 0 35 (((askF (gR S j)) + ((moF (fF S 0 2) τ C c (gR S j)))))) 0 33 (v1)) 1) (((12 * j) + 3)) (v3))) 1) (((12 * j) + 5)) (((gR S j 5) + 1)))) _ _ ls ((by first | exact hV1 | exact hV1.put (k := 5) (by decide) _)) ((by first | exact hg3.same (ns_n (Or.inl hN)) | exact hg3.same (ns_n (Or.inr (by first | assumption | exact Int32.not_lt.mpr (by assumption)))) | (rw [ns_y hY (by first | assumption | exact Int32.not_le.mp (by assumption))]; exact hg3.put 5 _))) (hf0) hP hD hS (lv_sub hl [0, 1, 2, 3, 4] rfl)
      refine lv_aload_n hx hb (fk_get fk_cX12_visitOne_1 14 rfl) rfl (lv_at hl 3 rfl) ?_
      refine lv_iload_n hx hb (fk_get fk_cX12_visitOne_1 15 rfl) rfl (lv_at hl 4 rfl) ?_
      refine lv_iconst (v := 3) hx hb (fk_get fk_cX12_visitOne_1 16 rfl) (by decide) ?_
      refine lv_iload hx hb (fk_get fk_cX12_visitOne_1 17 rfl) (lv_at hl 0 rfl) ?_
      refine lv_if_ge (tgt := 90) hx hb (fk_get fk_cX12_visitOne_1 18 rfl) (by decide) (fun c_66 => ?_) (fun c_66 => ?_)
      · refine lv_iload hx hb (fk_get fk_cX12_visitOne_1 21 rfl) (lv_at hl 0 rfl) ?_
        refine lv_bipush (v := 20) hx hb (fk_get fk_cX12_visitOne_1 22 rfl) (by decide) ?_
        refine lv_icmp_le (tgt := 102) hx hb (fk_get fk_cX12_visitOne_1 23 rfl) (by decide) (fun c_67 => ?_) (fun c_67 => ?_)
        · refine lv_iload hx hb (fk_get fk_cX12_visitOne_1 26 rfl) (lv_at hl 0 rfl) ?_
          exact jn_13 ((((gR S j 3) + v2))) ls ((by rw [← hv2]; first | exact cl_of (Or.inl ⟨by first | assumption | exact Int32.not_le.mp (by assumption), rfl⟩) | exact cl_of (Or.inr (Or.inl ⟨by first | assumption | exact Int32.not_lt.mpr (by assumption), by assumption, rfl⟩)) | exact cl_of (Or.inr (Or.inr ⟨by first | assumption | exact Int32.not_lt.mpr (by assumption), by assumption, rfl⟩)))) (lv_sub hl [0, 1, 2, 3, 4] rfl)
        refine lv_bipush (v := 20) hx hb (fk_get fk_cX12_visitOne_1 24 rfl) (by decide) ?_
        refine lv_goto (tgt := 104) hx hb (fk_get fk_cX12_visitOne_1 25 rfl) (by decide) ?_
        exact jn_13 ((20)) ls ((by rw [← hv2]; first | exact cl_of (Or.inl ⟨by first | assumption | exact Int32.not_le.mp (by assumption), rfl⟩) | exact cl_of (Or.inr (Or.inl ⟨by first | assumption | exact Int32.not_lt.mpr (by assumption), by assumption, rfl⟩)) | exact cl_of (Or.inr (Or.inr ⟨by first | assumption | exact Int32.not_lt.mpr (by assumption), by assumption, rfl⟩)))) (lv_sub hl [0, 1, 2, 3, 4] rfl)
      refine lv_iconst (v := 0) hx hb (fk_get fk_cX12_visitOne_1 19 rfl) (by decide) ?_
      refine lv_goto (tgt := 104) hx hb (fk_get fk_cX12_visitOne_1 20 rfl) (by decide) ?_
      exact jn_13 ((0)) ls ((by rw [← hv2]; first | exact cl_of (Or.inl ⟨by first | assumption | exact Int32.not_le.mp (by assumption), rfl⟩) | exact cl_of (Or.inr (Or.inl ⟨by first | assumption | exact Int32.not_lt.mpr (by assumption), by assumption, rfl⟩)) | exact cl_of (Or.inr (Or.inr ⟨by first | assumption | exact Int32.not_lt.mpr (by assumption), by assumption, rfl⟩)))) (lv_sub hl [0, 1, 2, 3, 4] rfl)
    refine lv_iload_n hx hb (fk_get fk_cX12_visitOne_1 4 rfl) rfl (lv_at hl 0 rfl) ?_
    refine lv_if_eq (tgt := 69) hx hb (fk_get fk_cX12_visitOne_1 5 rfl) (by decide) (fun c_68 => ?_) (fun c_68 => ?_)
    · have hN := no_f hno c_68
      refine lv_aload_n hx hb (fk_get fk_cX12_visitOne_1 8 rfl) rfl (lv_at hl 2 rfl) ?_
      refine lv_iconst (v := 3) hx hb (fk_get fk_cX12_visitOne_1 9 rfl) (by decide) ?_
      refine lv_iconst (v := 1) hx hb (fk_get fk_cX12_visitOne_1 10 rfl) (by decide) ?_
      refine vp_callSi (W.runV (As := [.int (3), .int (1)]) (rest := [.int ((gR S j 3))]) ⟨hx, hb, hml, hown, hT⟩ (c_lastOfE l G ad (setF (setF (setF S_6 0 34 ((askF (gR S j)))) 0 35 (((askF (gR S j)) + ((moF (fF S 0 2) τ C c (gR S j)))))) 0 33 (v1)) H.size (3) (z) (τ) (C) (1) (hHOK.V hVc) (hHX.V hVc) (by decide)) (tV 2 hT m6_180 m6_182 mp_43 m1_17 m6_183 rfl rfl (by decide +kernel) ⟨Nat.le_of_ble_eq_true rfl, Nat.le_of_ble_eq_true rfl⟩) ⟨PcW_blind, va_recv hK hP (ci := 14) (q0 := 0) rfl (ix_at (by decide) (cR_0 G ad (setF (setF (setF S_6 0 34 ((askF (gR S j)))) 0 35 (((askF (gR S j)) + ((moF (fF S 0 2) τ C c (gR S j)))))) 0 33 (v1)))), PcW_of hP hK hD _⟩ rfl rfl hl.1 rfl (lv_room (Nat.le_of_ble_eq_true rfl)) (fk_get fk_cX12_visitOne_1 11 rfl) ⟨Nat.zero_le _, Nat.zero_le _⟩) (fun r_69 hw_70 => ?_)
      try dsimp only at hw_70
      subst hw_70
      exact jn_12 ((((lstW 3 1 C)))) ls ((by first | exact (if_pos hY).symm | exact (if_neg hN).symm)) (lv_sub hl [0, 1, 2, 3] rfl)
    have hY := no_t hno c_68
    refine lv_bipush (v := (-2)) hx hb (fk_get fk_cX12_visitOne_1 6 rfl) (by decide) ?_
    refine lv_goto (tgt := 75) hx hb (fk_get fk_cX12_visitOne_1 7 rfl) (by decide) ?_
    exact jn_12 (((-2))) ls ((by first | exact (if_pos hY).symm | exact (if_neg hN).symm)) (lv_sub hl [0, 1, 2, 3] rfl)
  refine lv_aload_n hx hb (fk_get fk_cX12_visitOne_0 19 rfl) rfl (lv_at hl 2 rfl) ?_
  refine lv_iload_n hx hb (fk_get fk_cX12_visitOne_0 20 rfl) rfl (lv_at hl 0 rfl) ?_
  refine lv_if_eq (tgt := 47) hx hb (fk_get fk_cX12_visitOne_0 21 rfl) (by decide) (fun c_71 => ?_) (fun c_71 => ?_)
  · have hN := no_f hno c_71
    refine lv_aload_n hx hb (fk_get fk_cX12_visitOne_0 29 rfl) rfl (lv_at hl 2 rfl) ?_
    refine va_get (D := G.1) (ci := 14) (v := .int (((askF (gR S j)) + ((moF (fF S 0 2) τ C c (gR S j)))))) (C := RX12) (T := TX12) (N := 49) hx hb hT inX12 hown hK hP 0 (ix_at (by decide) (cR_0 G ad (setF (setF S_6 0 34 ((askF (gR S j)))) 0 35 (((askF (gR S j)) + ((moF (fF S 0 2) τ C c (gR S j)))))))) rfl 35 (by decide) (hT _ m5_136) (fun _ h9 => h9) rfl (fk_get fk_cX12_visitOne_0 30 rfl) ?_
    exact jn_9 ((((askF (gR S j)) + ((moF (fF S 0 2) τ C c (gR S j)))))) ls ((by unfold boF; first | (rw [if_pos hY]; done) | (rw [if_neg hN]; done))) (lv_sub hl [0, 1, 2, 3] rfl)
  have hY := no_t hno c_71
  refine lv_aload_n hx hb (fk_get fk_cX12_visitOne_0 22 rfl) rfl (lv_at hl 2 rfl) ?_
  refine va_get (D := G.1) (ci := 14) (v := .int ((askF (gR S j)))) (C := RX12) (T := TX12) (N := 49) hx hb hT inX12 hown hK hP 0 (ix_at (by decide) (cR_0 G ad (setF (setF S_6 0 34 ((askF (gR S j)))) 0 35 (((askF (gR S j)) + ((moF (fF S 0 2) τ C c (gR S j)))))))) rfl 34 (by decide) (hT _ m5_135) (fun _ h9 => h9) rfl (fk_get fk_cX12_visitOne_0 23 rfl) ?_
  refine lv_iload_n hx hb (fk_get fk_cX12_visitOne_0 24 rfl) rfl (lv_at hl 1 rfl) ?_
  refine lv_iconst (v := 2) hx hb (fk_get fk_cX12_visitOne_0 25 rfl) (by decide) ?_
  refine lv_idiv hx hb (fk_get fk_cX12_visitOne_0 26 rfl) (by decide) ?_
  refine lv_iadd hx hb (fk_get fk_cX12_visitOne_0 27 rfl) ?_
  refine lv_goto (tgt := 51) hx hb (fk_get fk_cX12_visitOne_0 28 rfl) (by decide) ?_
  exact jn_9 ((((askF (gR S j)) + (((moF (fF S 0 2) τ C c (gR S j))) / 2)))) ls ((by unfold boF; first | (rw [if_pos hY]; done) | (rw [if_neg hN]; done))) (lv_sub hl [0, 1, 2, 3] rfl)
