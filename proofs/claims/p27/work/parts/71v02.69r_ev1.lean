def cmpB (a w b : Int32) : Bool := if w = 0 then decide (a < b) else if w = 1 then decide (a = b) else decide (b < a)
theorem cmpB_t {a w b : Int32} (h : if w = 0 then a < b else if w = 1 then a = b else b < a) : cmpB a w b = true := by
  unfold cmpB
  by_cases h0 : w = 0
  · rw [if_pos h0] at h ⊢
    exact decide_eq_true h
  · rw [if_neg h0] at h ⊢
    by_cases h1 : w = 1
    · rw [if_pos h1] at h ⊢
      exact decide_eq_true h
    · rw [if_neg h1] at h ⊢
      exact decide_eq_true h
theorem cmpB_f {a w b : Int32} (h : ¬ if w = 0 then a < b else if w = 1 then a = b else b < a) : ¬ cmpB a w b = true := by
  unfold cmpB
  by_cases h0 : w = 0
  · rw [if_pos h0] at h ⊢
    exact fun q => h (of_decide_eq_true q)
  · rw [if_neg h0] at h ⊢
    by_cases h1 : w = 1
    · rw [if_pos h1] at h ⊢
      exact fun q => h (of_decide_eq_true q)
    · rw [if_neg h1] at h ⊢
      exact fun q => h (of_decide_eq_true q)
/-- what a letter of a test stands for -/
def val6 (num κ tr ov no vi w : Int32) : Int32 := if w = 0 then num else if w = 1 then κ else if w = 2 then tr else if w = 3 then ov else if w = 4 then no else vi - vi / 7 * 7
def Ecu (num κ tr ov no vi code n : Int32) : Bool := cmpB (val6 num κ tr ov no vi (code / 3)) (code - code / 3 * 3) n
def ECX (S : FS) (i q : Nat) : Int32 → Int32 → Bool := Ecu (fF S i 0) (nI q) (fF S i 5) (fF S i 6) (fF S i 7) (fF S i 8)
/-- one code, as the class does it: the bits that wait, the sum -/
def sx (E : Int32 → Int32 → Bool) (s c : Int32 × Int32) : Int32 × Int32 := if c.1 = 18 then (s.1 ^^^ 1, s.2) else if c.1 = 19 then ((s.1 >>> ((1 : Int32) &&& 31)) &&& ((s.1 &&& 1) ||| (-2)), s.2) else if c.1 = 20 then ((s.1 >>> ((1 : Int32) &&& 31)) ||| (s.1 &&& 1), s.2) else if c.1 = 21 then (0, s.2 + (s.1 &&& 1) * c.2) else ((s.1 <<< ((1 : Int32) &&& 31)) ||| (if E c.1 c.2 = true then 1 else 0), s.2)
section SX
variable {E : Int32 → Int32 → Bool} {f s : Int32} {c : Int32 × Int32}
theorem sx_18 (h : c.1 = 18) : sx E (f, s) c = (f ^^^ 1, s) := if_pos h
theorem sx_19 (h : c.1 = 19) : sx E (f, s) c = ((f >>> ((1 : Int32) &&& 31)) &&& ((f &&& 1) ||| (-2)), s) := (if_neg (by rw [h]; decide)).trans (if_pos h)
theorem sx_20 (h : c.1 = 20) : sx E (f, s) c = ((f >>> ((1 : Int32) &&& 31)) ||| (f &&& 1), s) := (if_neg (by rw [h]; decide)).trans ((if_neg (by rw [h]; decide)).trans (if_pos h))
theorem sx_21 (h : c.1 = 21) : sx E (f, s) c = (0, s + (f &&& 1) * c.2) := (if_neg (by rw [h]; decide)).trans ((if_neg (by rw [h]; decide)).trans ((if_neg (by rw [h]; decide)).trans (if_pos h)))
theorem sx_d (h1 : ¬ c.1 = 18) (h2 : ¬ c.1 = 19) (h3 : ¬ c.1 = 20) (h4 : ¬ c.1 = 21) : sx E (f, s) c = ((f <<< ((1 : Int32) &&& 31)) ||| (if E c.1 c.2 = true then 1 else 0), s) := (if_neg h1).trans ((if_neg h2).trans ((if_neg h3).trans (if_neg h4)))
theorem sx_dt (h1 : ¬ c.1 = 18) (h2 : ¬ c.1 = 19) (h3 : ¬ c.1 = 20) (h4 : ¬ c.1 = 21) (h : E c.1 c.2 = true) : sx E (f, s) c = ((f <<< ((1 : Int32) &&& 31)) ||| 1, s) := by rw [sx_d h1 h2 h3 h4, if_pos h]
theorem sx_df (h1 : ¬ c.1 = 18) (h2 : ¬ c.1 = 19) (h3 : ¬ c.1 = 20) (h4 : ¬ c.1 = 21) (h : ¬ E c.1 c.2 = true) : sx E (f, s) c = ((f <<< ((1 : Int32) &&& 31)) ||| 0, s) := by rw [sx_d h1 h2 h3 h4, if_neg h]
theorem fold_step {L : Cds} {k : Nat} {f' s' : Int32} {R : Int32 × Int32} (hk : k < L.length) (h : sx E (f, s) (L.getD k (0, 0)) = (f', s')) (hI : (L.drop k).foldl (sx E) (f, s) = R) : (L.drop (k + 1)).foldl (sx E) (f', s') = R := by
  rw [← hI, List.drop_eq_getElem_cons hk, List.foldl_cons, ← h, List.getD_eq_getElem?_getD, List.getElem?_eq_getElem hk]
  rfl
theorem fold_end {L : Cds} {k : Nat} {R : Int32 × Int32} (hk : L.length ≤ k) (hI : (L.drop k).foldl (sx E) (f, s) = R) : s = R.2 := by
  rw [List.drop_eq_nil_of_le hk] at hI
  rw [← hI]
  rfl
end SX
/-- the counter's codes and numbers, by their places -/
theorem CTX.rows {S : FS} {p a b n : Nat} {pr ln : Int32} {L : Cds} (h : CTX S p pr ln L) (ha : fR S p 2 = some a) (hb : fR S p 3 = some b) (hd : DIN S a n) : L.length = n ∧ ∀ i, i < n → fA S a i = (L.getD i (0, 0)).1 ∧ fA S b i = (L.getD i (0, 0)).2 := by
  obtain ⟨-, -, x, y, h3, h4, h5, h6, h7⟩ := h
  have ex : x = a := Option.some.inj (h3.symm.trans ha)
  have ey : y = b := Option.some.inj (h4.symm.trans hb)
  subst ex
  subst ey
  have e : L.length = n := h5.2.2.2.symm.trans hd.2.2.2
  exact ⟨e, fun i hi => h7 i (by omega)⟩
set_option maxHeartbeats 800000 in
set_option maxRecDepth 100000 in
theorem c_x1_valueE (l : Launch) (G : GG) (ad : Nat → Nat) (S : FS) (sz : Nat) (i q : Nat) (w_ : Int32) (hkq : fR S i 2 = some (2 + q)) (hq : q < 7) (hpk : pk i = 7) (hX : XI S) : Met l yX1_valueOf (Cond.code yX1_valueOf cX1_valueOf 2 (some .int) :: TBL) ({ frames := 2, cells := 0, slots := 0, locals := 64 } : Room) (PcW G (wX G ad S) sz [.ref (ad i), .int (w_)]) (vp_Si (fun (r : Int32) => r = val6 (fF S i 0) (nI q) (fF S i 5) (fF S i 6) (fF S i 7) (fF S i 8) w_)) 0 0 (fun _ => False) := by
  refine Met.ofW (cc := cX1_valueOf) (maxL := 2) (ret := (some .int)) (by decide) rfl ?_
  intro p e s m args below meth c₀ s₁ B hml hv
  obtain ⟨rfl, hsz, hP, hK, hD0⟩ := hv
  have hx := B.exec
  have hb := B.bytes
  have hr := B.returns
  have hT : ∀ w ∈ TBL, w.before ([.ref (ad i), .int (w_)] : List Value).toArray s = true := fun w h => atoms_spec (ws := Cond.code yX1_valueOf cX1_valueOf 2 (some .int) :: TBL) B.pre w (List.mem_cons_of_mem _ h)
  have hown : s.vm.findClass "LittleMore$Counter" = some m.cls := findClass_of_methodNamed B.named
  have hlocks := B.notSynchronized
  have hD := hD0
  have hP : va_P G.1 vwCl (wX G ad S) s.heap := hP
  have hl := lv_entry ([.ref (ad i), .int (w_)]) (n := 2) (Nat.le_of_ble_eq_true rfl)
  rw [lg_entry_eq]
  generalize (lg_sl ([.ref (ad i), .int (w_)]) ++ List.replicate (2 - (lg_sl ([.ref (ad i), .int (w_)])).length) Slot.unset).toArray = ls at hl ⊢
  have hl : lv_has ls 2 [(0, .ref (ad i)), (1, .int (w_))] := hl
  refine W_abs (fun Q hQ => ?_)
  generalize ([.ref (ad i), .int (w_)] : List Value).toArray = args at hT hQ ⊢
  have hb_i := pk7 hpk
  refine lv_iload_n hx hb (fk_get fk_cX1_valueOf_0 0 rfl) rfl (lv_at hl 1 rfl) ?_
  by_cases c_1 : w_ = (0 : Int32)
  · refine lv_tableIn (off := 35) (tgt := 36) hx hb (dk_get dk_cX1_valueOf_0 0 rfl) (by rw [c_1]; decide) (by rw [c_1]; decide) (by rw [c_1]; rfl) (by decide) ?_
    refine lv_aload_n hx hb (fk_get fk_cX1_valueOf_0 1 rfl) rfl (lv_at hl 0 rfl) ?_
    refine va_get (D := G.1) (ci := 5) (v := .int (fF S i 0)) (C := RX3) (T := TX3) (N := 10) hx hb hT inX3 hown hK hP i (ix_at (lt71 (by omega)) (cX_cust hpk)) rfl 0 (by decide) (hT _ m1_137) (fun _ h9 => h9) rfl (fk_get fk_cX1_valueOf_0 2 rfl) ?_
    subst hQ
    have hpost : ((fF S i 0) : Int32) = val6 (fF S i 0) (nI q) (fF S i 5) (fF S i 6) (fF S i 7) (fF S i 8) w_ := by
      unfold val6
      (repeat (first | rw [if_pos (by assumption)] | rw [if_neg (by assumption)])) <;> rfl
    exact W.iret (v := (fF S i 0)) hx hb hr (fun t_ ht_ hW_ => ⟨(fF S i 0), rfl, hpost, ht_⟩) (fun q h => by cases h) (fk_get fk_cX1_valueOf_0 3 rfl)
  by_cases c_2 : w_ = (1 : Int32)
  · refine lv_tableIn (off := 40) (tgt := 41) hx hb (dk_get dk_cX1_valueOf_0 0 rfl) (by rw [c_2]; decide) (by rw [c_2]; decide) (by rw [c_2]; rfl) (by decide) ?_
    refine lv_aload_n hx hb (fk_get fk_cX1_valueOf_0 4 rfl) rfl (lv_at hl 0 rfl) ?_
    refine va_get (D := G.1) (ci := 5) (v := va_rf ((fR S i 2).map ad)) (C := RX3) (T := TX3) (N := 10) hx hb hT inX3 hown hK hP i (ix_at (lt71 (by omega)) (cX_cust hpk)) rfl 2 (by decide) (hT _ m1_145) (fun _ h9 => h9) rfl (fk_get fk_cX1_valueOf_0 5 rfl) ?_
    rw [show va_rf ((fR S i 2).map ad) = .ref (ad (2 + q)) from by rw [hkq]; rfl]
    have kk_45 : W p l e ({ frames := 2, cells := 0, slots := 0, locals := 64 } : Room) s m args below meth c₀ s.heap [] 0 0 Q (F0 m 48 ls [.int (fF S (2 + q) 0)]) := by
      rw [XI.knum hX hq]
      subst hQ
      have hpost : ((nI q) : Int32) = val6 (fF S i 0) (nI q) (fF S i 5) (fF S i 6) (fF S i 7) (fF S i 8) w_ := by
        unfold val6
        (repeat (first | rw [if_pos (by assumption)] | rw [if_neg (by assumption)])) <;> rfl
      exact W.iret (v := (nI q)) hx hb hr (fun t_ ht_ hW_ => ⟨(nI q), rfl, hpost, ht_⟩) (fun q h => by cases h) (fk_get fk_cX1_valueOf_0 7 rfl)
    rcases kq7 hq with rfl | rfl | rfl | rfl | rfl | rfl | rfl
    · exact va_get (D := G.1) (ci := 7) (v := .int (fF S (2 + 0) 0)) (C := RX5) (T := TX5) (N := 1) hx hb hT inX5 hown hK hP (2 + 0) (ix_at (lt71 (by omega)) (cX_knd (by omega))) rfl 0 (by decide) (hT _ m1_47) (fun _ h9 => h9) rfl (fk_get fk_cX1_valueOf_0 6 rfl) kk_45
    · exact va_get (D := G.1) (ci := 10) (v := .int (fF S (2 + 1) 0)) (C := RX8) (T := TX8) (N := 1) hx hb hT inX8 hown hK hP (2 + 1) (ix_at (lt71 (by omega)) (cX_knd (by omega))) rfl 0 (by decide) (hT _ m1_47) (fun _ h9 => h9) rfl (fk_get fk_cX1_valueOf_0 6 rfl) kk_45
    · exact va_get (D := G.1) (ci := 6) (v := .int (fF S (2 + 2) 0)) (C := RX4) (T := TX4) (N := 1) hx hb hT inX4 hown hK hP (2 + 2) (ix_at (lt71 (by omega)) (cX_knd (by omega))) rfl 0 (by decide) (hT _ m1_47) (fun _ h9 => h9) rfl (fk_get fk_cX1_valueOf_0 6 rfl) kk_45
    · exact va_get (D := G.1) (ci := 2) (v := .int (fF S (2 + 3) 0)) (C := RX0) (T := TX0) (N := 1) hx hb hT inX0 hown hK hP (2 + 3) (ix_at (lt71 (by omega)) (cX_knd (by omega))) rfl 0 (by decide) (hT _ m1_47) (fun _ h9 => h9) rfl (fk_get fk_cX1_valueOf_0 6 rfl) kk_45
    · exact va_get (D := G.1) (ci := 4) (v := .int (fF S (2 + 4) 0)) (C := RX2) (T := TX2) (N := 1) hx hb hT inX2 hown hK hP (2 + 4) (ix_at (lt71 (by omega)) (cX_knd (by omega))) rfl 0 (by decide) (hT _ m1_47) (fun _ h9 => h9) rfl (fk_get fk_cX1_valueOf_0 6 rfl) kk_45
    · exact va_get (D := G.1) (ci := 8) (v := .int (fF S (2 + 5) 0)) (C := RX6) (T := TX6) (N := 1) hx hb hT inX6 hown hK hP (2 + 5) (ix_at (lt71 (by omega)) (cX_knd (by omega))) rfl 0 (by decide) (hT _ m1_47) (fun _ h9 => h9) rfl (fk_get fk_cX1_valueOf_0 6 rfl) kk_45
    · exact va_get (D := G.1) (ci := 12) (v := .int (fF S (2 + 6) 0)) (C := RX10) (T := TX10) (N := 1) hx hb hT inX10 hown hK hP (2 + 6) (ix_at (lt71 (by omega)) (cX_knd (by omega))) rfl 0 (by decide) (hT _ m1_47) (fun _ h9 => h9) rfl (fk_get fk_cX1_valueOf_0 6 rfl) kk_45
  by_cases c_3 : w_ = (2 : Int32)
  · refine lv_tableIn (off := 48) (tgt := 49) hx hb (dk_get dk_cX1_valueOf_0 0 rfl) (by rw [c_3]; decide) (by rw [c_3]; decide) (by rw [c_3]; rfl) (by decide) ?_
    refine lv_aload_n hx hb (fk_get fk_cX1_valueOf_0 8 rfl) rfl (lv_at hl 0 rfl) ?_
    refine va_get (D := G.1) (ci := 5) (v := .int (fF S i 5)) (C := RX3) (T := TX3) (N := 10) hx hb hT inX3 hown hK hP i (ix_at (lt71 (by omega)) (cX_cust hpk)) rfl 5 (by decide) (hT _ m1_162) (fun _ h9 => h9) rfl (fk_get fk_cX1_valueOf_0 9 rfl) ?_
    subst hQ
    have hpost : ((fF S i 5) : Int32) = val6 (fF S i 0) (nI q) (fF S i 5) (fF S i 6) (fF S i 7) (fF S i 8) w_ := by
      unfold val6
      (repeat (first | rw [if_pos (by assumption)] | rw [if_neg (by assumption)])) <;> rfl
    exact W.iret (v := (fF S i 5)) hx hb hr (fun t_ ht_ hW_ => ⟨(fF S i 5), rfl, hpost, ht_⟩) (fun q h => by cases h) (fk_get fk_cX1_valueOf_0 10 rfl)
  by_cases c_4 : w_ = (3 : Int32)
  · refine lv_tableIn (off := 53) (tgt := 54) hx hb (dk_get dk_cX1_valueOf_0 0 rfl) (by rw [c_4]; decide) (by rw [c_4]; decide) (by rw [c_4]; rfl) (by decide) ?_
    refine lv_aload_n hx hb (fk_get fk_cX1_valueOf_0 11 rfl) rfl (lv_at hl 0 rfl) ?_
    refine va_get (D := G.1) (ci := 5) (v := .int (fF S i 6)) (C := RX3) (T := TX3) (N := 10) hx hb hT inX3 hown hK hP i (ix_at (lt71 (by omega)) (cX_cust hpk)) rfl 6 (by decide) (hT _ m1_167) (fun _ h9 => h9) rfl (fk_get fk_cX1_valueOf_0 12 rfl) ?_
    subst hQ
    have hpost : ((fF S i 6) : Int32) = val6 (fF S i 0) (nI q) (fF S i 5) (fF S i 6) (fF S i 7) (fF S i 8) w_ := by
      unfold val6
      (repeat (first | rw [if_pos (by assumption)] | rw [if_neg (by assumption)])) <;> rfl
    exact W.iret (v := (fF S i 6)) hx hb hr (fun t_ ht_ hW_ => ⟨(fF S i 6), rfl, hpost, ht_⟩) (fun q h => by cases h) (fk_get fk_cX1_valueOf_0 13 rfl)
  by_cases c_5 : w_ = (4 : Int32)
  · refine lv_tableIn (off := 58) (tgt := 59) hx hb (dk_get dk_cX1_valueOf_0 0 rfl) (by rw [c_5]; decide) (by rw [c_5]; decide) (by rw [c_5]; rfl) (by decide) ?_
    refine lv_aload_n hx hb (fk_get fk_cX1_valueOf_0 14 rfl) rfl (lv_at hl 0 rfl) ?_
    refine va_get (D := G.1) (ci := 5) (v := .int (fF S i 7)) (C := RX3) (T := TX3) (N := 10) hx hb hT inX3 hown hK hP i (ix_at (lt71 (by omega)) (cX_cust hpk)) rfl 7 (by decide) (hT _ m1_172) (fun _ h9 => h9) rfl (fk_get fk_cX1_valueOf_0 15 rfl) ?_
    subst hQ
    have hpost : ((fF S i 7) : Int32) = val6 (fF S i 0) (nI q) (fF S i 5) (fF S i 6) (fF S i 7) (fF S i 8) w_ := by
      unfold val6
      (repeat (first | rw [if_pos (by assumption)] | rw [if_neg (by assumption)])) <;> rfl
    exact W.iret (v := (fF S i 7)) hx hb hr (fun t_ ht_ hW_ => ⟨(fF S i 7), rfl, hpost, ht_⟩) (fun q h => by cases h) (fk_get fk_cX1_valueOf_0 16 rfl)
  have o_6 : (w_).toInt < 0 ∨ 4 < (w_).toInt := by
    have qc_1 : ¬ (w_).toInt = 0 := lv_neT c_1 (by decide)
    have qc_2 : ¬ (w_).toInt = 1 := lv_neT c_2 (by decide)
    have qc_3 : ¬ (w_).toInt = 2 := lv_neT c_3 (by decide)
    have qc_4 : ¬ (w_).toInt = 3 := lv_neT c_4 (by decide)
    have qc_5 : ¬ (w_).toInt = 4 := lv_neT c_5 (by decide)
    omega
  refine lv_tableOut (tgt := 64) hx hb (dk_get dk_cX1_valueOf_0 0 rfl) o_6 (by decide) ?_
  refine lv_aload_n hx hb (fk_get fk_cX1_valueOf_0 17 rfl) rfl (lv_at hl 0 rfl) ?_
  refine va_get (D := G.1) (ci := 5) (v := .int (fF S i 8)) (C := RX3) (T := TX3) (N := 10) hx hb hT inX3 hown hK hP i (ix_at (lt71 (by omega)) (cX_cust hpk)) rfl 8 (by decide) (hT _ m1_176) (fun _ h9 => h9) rfl (fk_get fk_cX1_valueOf_0 18 rfl) ?_
  refine lv_bipush (v := 7) hx hb (fk_get fk_cX1_valueOf_0 19 rfl) (by decide) ?_
  refine lv_irem hx hb (fk_get fk_cX1_valueOf_0 20 rfl) (by decide) ?_
  subst hQ
  have hpost : (((fF S i 8) - (fF S i 8) / 7 * 7) : Int32) = val6 (fF S i 0) (nI q) (fF S i 5) (fF S i 6) (fF S i 7) (fF S i 8) w_ := by
    unfold val6
    (repeat (first | rw [if_pos (by assumption)] | rw [if_neg (by assumption)])) <;> rfl
  exact W.iret (v := ((fF S i 8) - (fF S i 8) / 7 * 7)) hx hb hr (fun t_ ht_ hW_ => ⟨((fF S i 8) - (fF S i 8) / 7 * 7), rfl, hpost, ht_⟩) (fun q h => by cases h) (fk_get fk_cX1_valueOf_0 21 rfl)
set_option maxHeartbeats 800000 in
set_option maxRecDepth 100000 in
theorem c_x1_addedE (l : Launch) (G : GG) (ad : Nat → Nat) (S : FS) (sz : Nat) (pz i q : Nat) (pr ln : Int32) (L : Cds) (hc : COK S pz) (hcx : CTX S pz pr ln L) (hkq : fR S i 2 = some (2 + q)) (hq : q < 7) (hpk : pk i = 7) (hX : XI S) : Met l yX1_addedByClauses (Cond.code yX1_addedByClauses cX1_addedByClauses 8 (some .int) :: TBL) ({ frames := 3, cells := 0, slots := 0, locals := 90 } : Room) (PcW G (wX G ad S) sz [.ref (ad pz), .ref (ad i)]) (vp_Si (fun (r : Int32) => r = (L.foldl (sx (ECX S i q)) (0, 0)).2)) 0 0 (fun _ => False) := by
  refine Met.ofW (cc := cX1_addedByClauses) (maxL := 8) (ret := (some .int)) (by decide) rfl ?_
  intro p e s m args below meth c₀ s₁ B hml hv
  obtain ⟨rfl, hsz, hP, hK, hD0⟩ := hv
  have hx := B.exec
  have hb := B.bytes
  have hr := B.returns
  have hT : ∀ w ∈ TBL, w.before ([.ref (ad pz), .ref (ad i)] : List Value).toArray s = true := fun w h => atoms_spec (ws := Cond.code yX1_addedByClauses cX1_addedByClauses 8 (some .int) :: TBL) B.pre w (List.mem_cons_of_mem _ h)
  have hown : s.vm.findClass "LittleMore$Counter" = some m.cls := findClass_of_methodNamed B.named
  have hlocks := B.notSynchronized
  have hD := hD0
  have hP : va_P G.1 vwCl (wX G ad S) s.heap := hP
  have hl := lv_entry ([.ref (ad pz), .ref (ad i)]) (n := 8) (Nat.le_of_ble_eq_true rfl)
  rw [lg_entry_eq]
  generalize (lg_sl ([.ref (ad pz), .ref (ad i)]) ++ List.replicate (8 - (lg_sl ([.ref (ad pz), .ref (ad i)])).length) Slot.unset).toArray = ls at hl ⊢
  have hl : lv_has ls 8 [(0, .ref (ad pz)), (1, .ref (ad i))] := hl
  refine W_abs (fun Q hQ => ?_)
  generalize ([.ref (ad pz), .ref (ad i)] : List Value).toArray = args at hT hQ ⊢
  have hb_i := pk7 hpk
  obtain ⟨h1_z, h2_z, h3_z, a_z, b_z, L_z, ha_z, hb_z, hL_z, da_z, db_z⟩ := hc
  have hc : COK S pz := ⟨h1_z, h2_z, h3_z, a_z, b_z, L_z, ha_z, hb_z, hL_z, da_z, db_z⟩
  obtain ⟨hLL, hcd⟩ := hcx.rows ha_z hb_z da_z
  refine lv_iconst (v := 0) hx hb (fk_get fk_cX1_addedByClauses_0 0 rfl) (by decide) ?_
  refine lv_istore_n (lv' := [(2, .int (0)), (0, .ref (ad pz)), (1, .ref (ad i))]) hx hb (fk_get fk_cX1_addedByClauses_0 1 rfl) rfl hl (by decide) rfl (fun ls hl => ?_)
  refine lv_iconst (v := 0) hx hb (fk_get fk_cX1_addedByClauses_0 2 rfl) (by decide) ?_
  refine lv_istore_n (lv' := [(3, .int (0)), (2, .int (0)), (0, .ref (ad pz)), (1, .ref (ad i))]) hx hb (fk_get fk_cX1_addedByClauses_0 3 rfl) rfl hl (by decide) rfl (fun ls hl => ?_)
  refine lv_iconst (v := 0) hx hb (fk_get fk_cX1_addedByClauses_0 4 rfl) (by decide) ?_
  refine lv_istore (lv' := [(4, .int (0)), (3, .int (0)), (2, .int (0)), (0, .ref (ad pz)), (1, .ref (ad i))]) hx hb (fk_get fk_cX1_addedByClauses_0 5 rfl) hl (by decide) rfl (fun ls hl => ?_)
  have lp_1 : ∀ (fu : Nat) (k : Nat) (v2 v3 : Int32) (ls : Array Slot),  (k ≤ L_z) → (L_z < k + fu) → ((L.drop k).foldl (sx (ECX S i q)) (v3, v2) = L.foldl (sx (ECX S i q)) (0, 0)) → lv_has ls 8 [(4, .int ((nI k))), (3, .int (v3)), (2, .int (v2)), (0, .ref (ad pz)), (1, .ref (ad i))] → W p l e ({ frames := 3, cells := 0, slots := 0, locals := 90 } : Room) s m args below meth c₀ s.heap [] 0 0 Q (F0 m 7 ls []) := by
    intro fu
    induction fu with
    | zero =>
      intro k v2 v3 ls hk hf hI hl
      exact absurd hf (by omega)
    | succ fu ih =>
      intro k v2 v3 ls hk hf hI hl
      refine lv_iload hx hb (fk_get fk_cX1_addedByClauses_0 6 rfl) (lv_at hl 0 rfl) ?_
      refine lv_aload_n hx hb (fk_get fk_cX1_addedByClauses_0 7 rfl) rfl (lv_at hl 3 rfl) ?_
      refine va_get (D := G.1) (ci := 3) (v := va_rf ((fR S pz 2).map ad)) (C := RX1) (T := TX1) (N := 4) hx hb hT inX1 hown hK hP pz (ix_at (hc).2.1 (cX_ctr (hc).1 (hc).2.2.1)) rfl 2 (by decide) (hT _ m1_118) (fun _ h9 => h9) rfl (fk_get fk_cX1_addedByClauses_0 8 rfl) ?_
      rw [show va_rf ((fR S pz 2).map ad) = .ref (ad a_z) from by rw [ha_z]; rfl]
      refine va_alen hx hb hK hP a_z 0 (ix_at (da_z).2.1 (cX_din da_z)) rfl (v := nI L_z) rfl (fk_get fk_cX1_addedByClauses_0 9 rfl) ?_
      refine lv_icmp_ge (tgt := 157) hx hb (fk_get fk_cX1_addedByClauses_0 10 rfl) (by decide) (fun c_2 => ?_) (fun c_2 => ?_)
      · have q_c_2 : L_z ≤ k := ci_le (a := L_z) (b := k) (by omega) (by omega) c_2
        refine lv_iload_n hx hb (fk_get fk_cX1_addedByClauses_2 16 rfl) rfl (lv_at hl 2 rfl) ?_
        subst hQ
        have hpost : (v2 : Int32) = (L.foldl (sx (ECX S i q)) (0, 0)).2 := by
          exact fold_end (by omega) hI
        exact W.iret (v := v2) hx hb hr (fun t_ ht_ hW_ => ⟨v2, rfl, hpost, ht_⟩) (fun q h => by cases h) (fk_get fk_cX1_addedByClauses_2 17 rfl)
      have q_c_2 : k < L_z := ci_nle (a := L_z) (b := k) (by omega) (by omega) c_2
      obtain ⟨hcd1, hcd2⟩ := hcd k (by omega)
      refine lv_aload_n hx hb (fk_get fk_cX1_addedByClauses_0 11 rfl) rfl (lv_at hl 3 rfl) ?_
      refine va_get (D := G.1) (ci := 3) (v := va_rf ((fR S pz 2).map ad)) (C := RX1) (T := TX1) (N := 4) hx hb hT inX1 hown hK hP pz (ix_at (hc).2.1 (cX_ctr (hc).1 (hc).2.2.1)) rfl 2 (by decide) (hT _ m1_118) (fun _ h9 => h9) rfl (fk_get fk_cX1_addedByClauses_0 12 rfl) ?_
      rw [show va_rf ((fR S pz 2).map ad) = .ref (ad a_z) from by rw [ha_z]; rfl]
      refine lv_iload hx hb (fk_get fk_cX1_addedByClauses_0 13 rfl) (lv_at hl 0 rfl) ?_
      refine r_iald (f := fA S a_z) hx hb hK hP a_z 0 (ix_at (da_z).2.1 (cX_din da_z)) rfl (j := k) (rfl) (by omega) (by omega) (fk_get fk_cX1_addedByClauses_0 14 rfl) ?_
      refine lv_istore (lv' := [(5, .int ((fA S a_z k))), (4, .int ((nI k))), (3, .int (v3)), (2, .int (v2)), (0, .ref (ad pz)), (1, .ref (ad i))]) hx hb (fk_get fk_cX1_addedByClauses_0 15 rfl) hl (by decide) rfl (fun ls hl => ?_)
      refine lv_iload_n hx hb (fk_get fk_cX1_addedByClauses_0 16 rfl) rfl (lv_at hl 2 rfl) ?_
      refine lv_iconst (v := 1) hx hb (fk_get fk_cX1_addedByClauses_0 17 rfl) (by decide) ?_
      refine lv_iand hx hb (fk_get fk_cX1_addedByClauses_0 18 rfl) ?_
      refine lv_istore (lv' := [(6, .int ((v3 &&& 1))), (5, .int ((fA S a_z k))), (4, .int ((nI k))), (3, .int (v3)), (2, .int (v2)), (0, .ref (ad pz)), (1, .ref (ad i))]) hx hb (fk_get fk_cX1_addedByClauses_0 19 rfl) hl (by decide) rfl (fun ls hl => ?_)
      refine lv_iload hx hb (fk_get fk_cX1_addedByClauses_0 20 rfl) (lv_at hl 1 rfl) ?_
      by_cases c_3 : (fA S a_z k) = (18 : Int32)
      · refine lv_tableIn (off := 31) (tgt := 64) hx hb (dk_get dk_cX1_addedByClauses_0 0 rfl) (by rw [c_3]; decide) (by rw [c_3]; decide) (by rw [c_3]; rfl) (by decide) ?_
        refine lv_iload_n hx hb (fk_get fk_cX1_addedByClauses_0 21 rfl) rfl (lv_at hl 3 rfl) ?_
        refine lv_iconst (v := 1) hx hb (fk_get fk_cX1_addedByClauses_0 22 rfl) (by decide) ?_
        refine lv_ixor hx hb (fk_get fk_cX1_addedByClauses_0 23 rfl) ?_
        refine lv_istore_n (lv' := [(3, .int ((v3 ^^^ 1))), (6, .int ((v3 &&& 1))), (5, .int ((fA S a_z k))), (4, .int ((nI k))), (2, .int (v2)), (0, .ref (ad pz)), (1, .ref (ad i))]) hx hb (fk_get fk_cX1_addedByClauses_0 24 rfl) rfl hl (by decide) rfl (fun ls hl => ?_)
        refine lv_goto (tgt := 151) hx hb (fk_get fk_cX1_addedByClauses_0 25 rfl) (by decide) ?_
        refine lv_iinc (v := (nI (k + 1))) (lv' := [(4, .int ((nI (k + 1)))), (3, .int ((v3 ^^^ 1))), (6, .int ((v3 &&& 1))), (5, .int ((fA S a_z k))), (2, .int (v2)), (0, .ref (ad pz)), (1, .ref (ad i))]) hx hb (fk_get fk_cX1_addedByClauses_2 14 rfl) hl (k := 3) rfl ((nI_1 k)) (by decide) rfl (fun ls hl => ?_)
        refine lv_goto (tgt := 7) hx hb (fk_get fk_cX1_addedByClauses_2 15 rfl) (by decide) ?_
        exact ih (k + 1) (v2) ((v3 ^^^ 1)) ls (by omega) (by omega) ((fold_step (by omega) (by first | exact sx_18 (by rw [← hcd1]; assumption) | exact sx_19 (by rw [← hcd1]; assumption) | exact sx_20 (by rw [← hcd1]; assumption) | (rw [sx_21 (by rw [← hcd1]; assumption), ← hcd2]; done) | exact sx_dt (by rw [← hcd1]; assumption) (by rw [← hcd1]; assumption) (by rw [← hcd1]; assumption) (by rw [← hcd1]; assumption) (by rw [← hcd1, ← hcd2]; exact cmpB_t (by assumption)) | exact sx_df (by rw [← hcd1]; assumption) (by rw [← hcd1]; assumption) (by rw [← hcd1]; assumption) (by rw [← hcd1]; assumption) (by rw [← hcd1, ← hcd2]; exact cmpB_f (by assumption))) hI)) (lv_sub hl [0, 1, 4, 5, 6] rfl)
      by_cases c_4 : (fA S a_z k) = (19 : Int32)
      · refine lv_tableIn (off := 38) (tgt := 71) hx hb (dk_get dk_cX1_addedByClauses_0 0 rfl) (by rw [c_4]; decide) (by rw [c_4]; decide) (by rw [c_4]; rfl) (by decide) ?_
        refine lv_iload_n hx hb (fk_get fk_cX1_addedByClauses_0 26 rfl) rfl (lv_at hl 3 rfl) ?_
        refine lv_iconst (v := 1) hx hb (fk_get fk_cX1_addedByClauses_0 27 rfl) (by decide) ?_
        refine lv_ishr hx hb (fk_get fk_cX1_addedByClauses_0 28 rfl) ?_
        refine lv_iload hx hb (fk_get fk_cX1_addedByClauses_0 29 rfl) (lv_at hl 0 rfl) ?_
        refine lv_bipush (v := (-2)) hx hb (fk_get fk_cX1_addedByClauses_0 30 rfl) (by decide) ?_
        refine lv_ior hx hb (fk_get fk_cX1_addedByClauses_0 31 rfl) ?_
        refine lv_iand hx hb (fk_get fk_cX1_addedByClauses_1 0 rfl) ?_
        refine lv_istore_n (lv' := [(3, .int (((v3 >>> (1 &&& 31)) &&& ((v3 &&& 1) ||| (-2))))), (6, .int ((v3 &&& 1))), (5, .int ((fA S a_z k))), (4, .int ((nI k))), (2, .int (v2)), (0, .ref (ad pz)), (1, .ref (ad i))]) hx hb (fk_get fk_cX1_addedByClauses_1 1 rfl) rfl hl (by decide) rfl (fun ls hl => ?_)
        refine lv_goto (tgt := 151) hx hb (fk_get fk_cX1_addedByClauses_1 2 rfl) (by decide) ?_
        refine lv_iinc (v := (nI (k + 1))) (lv' := [(4, .int ((nI (k + 1)))), (3, .int (((v3 >>> (1 &&& 31)) &&& ((v3 &&& 1) ||| (-2))))), (6, .int ((v3 &&& 1))), (5, .int ((fA S a_z k))), (2, .int (v2)), (0, .ref (ad pz)), (1, .ref (ad i))]) hx hb (fk_get fk_cX1_addedByClauses_2 14 rfl) hl (k := 3) rfl ((nI_1 k)) (by decide) rfl (fun ls hl => ?_)
        refine lv_goto (tgt := 7) hx hb (fk_get fk_cX1_addedByClauses_2 15 rfl) (by decide) ?_
        exact ih (k + 1) (v2) (((v3 >>> (1 &&& 31)) &&& ((v3 &&& 1) ||| (-2)))) ls (by omega) (by omega) ((fold_step (by omega) (by first | exact sx_18 (by rw [← hcd1]; assumption) | exact sx_19 (by rw [← hcd1]; assumption) | exact sx_20 (by rw [← hcd1]; assumption) | (rw [sx_21 (by rw [← hcd1]; assumption), ← hcd2]; done) | exact sx_dt (by rw [← hcd1]; assumption) (by rw [← hcd1]; assumption) (by rw [← hcd1]; assumption) (by rw [← hcd1]; assumption) (by rw [← hcd1, ← hcd2]; exact cmpB_t (by assumption)) | exact sx_df (by rw [← hcd1]; assumption) (by rw [← hcd1]; assumption) (by rw [← hcd1]; assumption) (by rw [← hcd1]; assumption) (by rw [← hcd1, ← hcd2]; exact cmpB_f (by assumption))) hI)) (lv_sub hl [0, 1, 4, 5, 6] rfl)
      by_cases c_5 : (fA S a_z k) = (20 : Int32)
      · refine lv_tableIn (off := 51) (tgt := 84) hx hb (dk_get dk_cX1_addedByClauses_0 0 rfl) (by rw [c_5]; decide) (by rw [c_5]; decide) (by rw [c_5]; rfl) (by decide) ?_
        refine lv_iload_n hx hb (fk_get fk_cX1_addedByClauses_1 3 rfl) rfl (lv_at hl 3 rfl) ?_
        refine lv_iconst (v := 1) hx hb (fk_get fk_cX1_addedByClauses_1 4 rfl) (by decide) ?_
        refine lv_ishr hx hb (fk_get fk_cX1_addedByClauses_1 5 rfl) ?_
        refine lv_iload hx hb (fk_get fk_cX1_addedByClauses_1 6 rfl) (lv_at hl 0 rfl) ?_
        refine lv_ior hx hb (fk_get fk_cX1_addedByClauses_1 7 rfl) ?_
        refine lv_istore_n (lv' := [(3, .int (((v3 >>> (1 &&& 31)) ||| (v3 &&& 1)))), (6, .int ((v3 &&& 1))), (5, .int ((fA S a_z k))), (4, .int ((nI k))), (2, .int (v2)), (0, .ref (ad pz)), (1, .ref (ad i))]) hx hb (fk_get fk_cX1_addedByClauses_1 8 rfl) rfl hl (by decide) rfl (fun ls hl => ?_)
        refine lv_goto (tgt := 151) hx hb (fk_get fk_cX1_addedByClauses_1 9 rfl) (by decide) ?_
        refine lv_iinc (v := (nI (k + 1))) (lv' := [(4, .int ((nI (k + 1)))), (3, .int (((v3 >>> (1 &&& 31)) ||| (v3 &&& 1)))), (6, .int ((v3 &&& 1))), (5, .int ((fA S a_z k))), (2, .int (v2)), (0, .ref (ad pz)), (1, .ref (ad i))]) hx hb (fk_get fk_cX1_addedByClauses_2 14 rfl) hl (k := 3) rfl ((nI_1 k)) (by decide) rfl (fun ls hl => ?_)
        refine lv_goto (tgt := 7) hx hb (fk_get fk_cX1_addedByClauses_2 15 rfl) (by decide) ?_
        exact ih (k + 1) (v2) (((v3 >>> (1 &&& 31)) ||| (v3 &&& 1))) ls (by omega) (by omega) ((fold_step (by omega) (by first | exact sx_18 (by rw [← hcd1]; assumption) | exact sx_19 (by rw [← hcd1]; assumption) | exact sx_20 (by rw [← hcd1]; assumption) | (rw [sx_21 (by rw [← hcd1]; assumption), ← hcd2]; done) | exact sx_dt (by rw [← hcd1]; assumption) (by rw [← hcd1]; assumption) (by rw [← hcd1]; assumption) (by rw [← hcd1]; assumption) (by rw [← hcd1, ← hcd2]; exact cmpB_t (by assumption)) | exact sx_df (by rw [← hcd1]; assumption) (by rw [← hcd1]; assumption) (by rw [← hcd1]; assumption) (by rw [← hcd1]; assumption) (by rw [← hcd1, ← hcd2]; exact cmpB_f (by assumption))) hI)) (lv_sub hl [0, 1, 4, 5, 6] rfl)
      by_cases c_6 : (fA S a_z k) = (21 : Int32)
      · refine lv_tableIn (off := 61) (tgt := 94) hx hb (dk_get dk_cX1_addedByClauses_0 0 rfl) (by rw [c_6]; decide) (by rw [c_6]; decide) (by rw [c_6]; rfl) (by decide) ?_
        refine lv_iload_n hx hb (fk_get fk_cX1_addedByClauses_1 10 rfl) rfl (lv_at hl 4 rfl) ?_
        refine lv_iload hx hb (fk_get fk_cX1_addedByClauses_1 11 rfl) (lv_at hl 0 rfl) ?_
        refine lv_aload_n hx hb (fk_get fk_cX1_addedByClauses_1 12 rfl) rfl (lv_at hl 5 rfl) ?_
        refine va_get (D := G.1) (ci := 3) (v := va_rf ((fR S pz 3).map ad)) (C := RX1) (T := TX1) (N := 4) hx hb hT inX1 hown hK hP pz (ix_at (hc).2.1 (cX_ctr (hc).1 (hc).2.2.1)) rfl 3 (by decide) (hT _ m1_119) (fun _ h9 => h9) rfl (fk_get fk_cX1_addedByClauses_1 13 rfl) ?_
        rw [show va_rf ((fR S pz 3).map ad) = .ref (ad b_z) from by rw [hb_z]; rfl]
        refine lv_iload hx hb (fk_get fk_cX1_addedByClauses_1 14 rfl) (lv_at hl 2 rfl) ?_
        refine r_iald (f := fA S b_z) hx hb hK hP b_z 0 (ix_at (db_z).2.1 (cX_din db_z)) rfl (j := k) (rfl) (by omega) (by omega) (fk_get fk_cX1_addedByClauses_1 15 rfl) ?_
        refine lv_imul hx hb (fk_get fk_cX1_addedByClauses_1 16 rfl) ?_
        refine lv_iadd hx hb (fk_get fk_cX1_addedByClauses_1 17 rfl) ?_
        refine lv_istore_n (lv' := [(2, .int ((v2 + ((v3 &&& 1) * (fA S b_z k))))), (6, .int ((v3 &&& 1))), (5, .int ((fA S a_z k))), (4, .int ((nI k))), (3, .int (v3)), (0, .ref (ad pz)), (1, .ref (ad i))]) hx hb (fk_get fk_cX1_addedByClauses_1 18 rfl) rfl hl (by decide) rfl (fun ls hl => ?_)
        refine lv_iconst (v := 0) hx hb (fk_get fk_cX1_addedByClauses_1 19 rfl) (by decide) ?_
        refine lv_istore_n (lv' := [(3, .int (0)), (2, .int ((v2 + ((v3 &&& 1) * (fA S b_z k))))), (6, .int ((v3 &&& 1))), (5, .int ((fA S a_z k))), (4, .int ((nI k))), (0, .ref (ad pz)), (1, .ref (ad i))]) hx hb (fk_get fk_cX1_addedByClauses_1 20 rfl) rfl hl (by decide) rfl (fun ls hl => ?_)
        refine lv_goto (tgt := 151) hx hb (fk_get fk_cX1_addedByClauses_1 21 rfl) (by decide) ?_
        refine lv_iinc (v := (nI (k + 1))) (lv' := [(4, .int ((nI (k + 1)))), (3, .int (0)), (2, .int ((v2 + ((v3 &&& 1) * (fA S b_z k))))), (6, .int ((v3 &&& 1))), (5, .int ((fA S a_z k))), (0, .ref (ad pz)), (1, .ref (ad i))]) hx hb (fk_get fk_cX1_addedByClauses_2 14 rfl) hl (k := 4) rfl ((nI_1 k)) (by decide) rfl (fun ls hl => ?_)
        refine lv_goto (tgt := 7) hx hb (fk_get fk_cX1_addedByClauses_2 15 rfl) (by decide) ?_
        exact ih (k + 1) ((v2 + ((v3 &&& 1) * (fA S b_z k)))) (0) ls (by omega) (by omega) ((fold_step (by omega) (by first | exact sx_18 (by rw [← hcd1]; assumption) | exact sx_19 (by rw [← hcd1]; assumption) | exact sx_20 (by rw [← hcd1]; assumption) | (rw [sx_21 (by rw [← hcd1]; assumption), ← hcd2]; done) | exact sx_dt (by rw [← hcd1]; assumption) (by rw [← hcd1]; assumption) (by rw [← hcd1]; assumption) (by rw [← hcd1]; assumption) (by rw [← hcd1, ← hcd2]; exact cmpB_t (by assumption)) | exact sx_df (by rw [← hcd1]; assumption) (by rw [← hcd1]; assumption) (by rw [← hcd1]; assumption) (by rw [← hcd1]; assumption) (by rw [← hcd1, ← hcd2]; exact cmpB_f (by assumption))) hI)) (lv_sub hl [0, 1, 2, 5, 6] rfl)
      have o_7 : ((fA S a_z k)).toInt < 18 ∨ 21 < ((fA S a_z k)).toInt := by
        have qc_3 : ¬ ((fA S a_z k)).toInt = 18 := lv_neT c_3 (by decide)
        have qc_4 : ¬ ((fA S a_z k)).toInt = 19 := lv_neT c_4 (by decide)
        have qc_5 : ¬ ((fA S a_z k)).toInt = 20 := lv_neT c_5 (by decide)
        have qc_6 : ¬ ((fA S a_z k)).toInt = 21 := lv_neT c_6 (by decide)
        omega
      refine lv_tableOut (tgt := 112) hx hb (dk_get dk_cX1_addedByClauses_0 0 rfl) o_7 (by decide) ?_
      refine lv_aload_n hx hb (fk_get fk_cX1_addedByClauses_1 22 rfl) rfl (lv_at hl 6 rfl) ?_
      refine lv_iload hx hb (fk_get fk_cX1_addedByClauses_1 23 rfl) (lv_at hl 1 rfl) ?_
      refine lv_iconst (v := 3) hx hb (fk_get fk_cX1_addedByClauses_1 24 rfl) (by decide) ?_
      refine lv_idiv hx hb (fk_get fk_cX1_addedByClauses_1 25 rfl) (by decide) ?_
      refine vp_callSi (W.runS (As := [.ref (ad i), .int (((fA S a_z k) / 3))]) (rest := []) ⟨hx, hb, hml, hown, hT⟩ (c_x1_valueE l G ad S s.heap.size (i) (q) (((fA S a_z k) / 3)) (by first | assumption | omega) (by first | assumption | omega) (hpk) (hX)) (tS 2 hT m2_132 m2_133 m1_10 m2_134 rfl rfl (by decide +kernel) ⟨Nat.le_of_ble_eq_true rfl, Nat.le_of_ble_eq_true rfl⟩) ⟨PcW_blind, PcW_of hP hK hD _⟩ rfl rfl hl.1 rfl (lv_room (Nat.le_of_ble_eq_true rfl)) (fk_get fk_cX1_addedByClauses_1 26 rfl) ⟨Nat.zero_le _, Nat.zero_le _⟩) (fun r_8 hw_9 => ?_)
      try dsimp only at hw_9
      subst hw_9
      refine lv_istore (lv' := [(7, .int ((val6 (fF S i 0) (nI q) (fF S i 5) (fF S i 6) (fF S i 7) (fF S i 8) (fA S a_z k / 3)))), (6, .int ((v3 &&& 1))), (5, .int ((fA S a_z k))), (4, .int ((nI k))), (3, .int (v3)), (2, .int (v2)), (0, .ref (ad pz)), (1, .ref (ad i))]) hx hb (fk_get fk_cX1_addedByClauses_1 27 rfl) hl (by decide) rfl (fun ls hl => ?_)
      refine lv_iload_n hx hb (fk_get fk_cX1_addedByClauses_1 28 rfl) rfl (lv_at hl 4 rfl) ?_
      refine lv_iconst (v := 1) hx hb (fk_get fk_cX1_addedByClauses_1 29 rfl) (by decide) ?_
      refine lv_ishl hx hb (fk_get fk_cX1_addedByClauses_1 30 rfl) ?_
      refine lv_iload hx hb (fk_get fk_cX1_addedByClauses_1 31 rfl) (lv_at hl 0 rfl) ?_
      refine lv_iload hx hb (fk_get fk_cX1_addedByClauses_2 0 rfl) (lv_at hl 2 rfl) ?_
      refine lv_iconst (v := 3) hx hb (fk_get fk_cX1_addedByClauses_2 1 rfl) (by decide) ?_
      refine lv_irem hx hb (fk_get fk_cX1_addedByClauses_2 2 rfl) (by decide) ?_
      refine lv_aload_n hx hb (fk_get fk_cX1_addedByClauses_2 3 rfl) rfl (lv_at hl 6 rfl) ?_
      refine va_get (D := G.1) (ci := 3) (v := va_rf ((fR S pz 3).map ad)) (C := RX1) (T := TX1) (N := 4) hx hb hT inX1 hown hK hP pz (ix_at (hc).2.1 (cX_ctr (hc).1 (hc).2.2.1)) rfl 3 (by decide) (hT _ m1_119) (fun _ h9 => h9) rfl (fk_get fk_cX1_addedByClauses_2 4 rfl) ?_
      rw [show va_rf ((fR S pz 3).map ad) = .ref (ad b_z) from by rw [hb_z]; rfl]
      refine lv_iload hx hb (fk_get fk_cX1_addedByClauses_2 5 rfl) (lv_at hl 3 rfl) ?_
      refine r_iald (f := fA S b_z) hx hb hK hP b_z 0 (ix_at (db_z).2.1 (cX_din db_z)) rfl (j := k) (rfl) (by omega) (by omega) (fk_get fk_cX1_addedByClauses_2 6 rfl) ?_
      refine vp_callSi (W.runS (As := [.int ((val6 (fF S i 0) (nI q) (fF S i 5) (fF S i 6) (fF S i 7) (fF S i 8) (fA S a_z k / 3))), .int (((fA S a_z k) - (fA S a_z k) / 3 * 3)), .int ((fA S b_z k))]) (rest := [.int ((v3 <<< (1 &&& 31)))]) ⟨hx, hb, hml, hown, hT⟩ (c_x1_compares l ((val6 (fF S i 0) (nI q) (fF S i 5) (fF S i 6) (fF S i 7) (fF S i 8) (fA S a_z k / 3))) (((fA S a_z k) - (fA S a_z k) / 3 * 3)) ((fA S b_z k)) ) (tS 3 hT m2_135 m2_136 m1_10 m2_137 rfl rfl (by decide +kernel) ⟨Nat.le_of_ble_eq_true rfl, Nat.le_of_ble_eq_true rfl⟩) ⟨PcN_blind, PcN_of _ _ _⟩ rfl rfl hl.1 rfl (lv_room (Nat.le_of_ble_eq_true rfl)) (fk_get fk_cX1_addedByClauses_2 7 rfl) ⟨Nat.zero_le _, Nat.zero_le _⟩) (fun r_10 hw_11 => ?_)
      try dsimp only at hw_11
      refine lv_if_eq (tgt := 148) hx hb (fk_get fk_cX1_addedByClauses_2 8 rfl) (by decide) (fun c_12 => ?_) (fun c_12 => ?_)
      · have p_c_12 := if1_f hw_11 c_12
        refine lv_iconst (v := 0) hx hb (fk_get fk_cX1_addedByClauses_2 11 rfl) (by decide) ?_
        refine lv_ior hx hb (fk_get fk_cX1_addedByClauses_2 12 rfl) ?_
        refine lv_istore_n (lv' := [(3, .int (((v3 <<< (1 &&& 31)) ||| 0))), (7, .int ((val6 (fF S i 0) (nI q) (fF S i 5) (fF S i 6) (fF S i 7) (fF S i 8) (fA S a_z k / 3)))), (6, .int ((v3 &&& 1))), (5, .int ((fA S a_z k))), (4, .int ((nI k))), (2, .int (v2)), (0, .ref (ad pz)), (1, .ref (ad i))]) hx hb (fk_get fk_cX1_addedByClauses_2 13 rfl) rfl hl (by decide) rfl (fun ls hl => ?_)
        refine lv_iinc (v := (nI (k + 1))) (lv' := [(4, .int ((nI (k + 1)))), (3, .int (((v3 <<< (1 &&& 31)) ||| 0))), (7, .int ((val6 (fF S i 0) (nI q) (fF S i 5) (fF S i 6) (fF S i 7) (fF S i 8) (fA S a_z k / 3)))), (6, .int ((v3 &&& 1))), (5, .int ((fA S a_z k))), (2, .int (v2)), (0, .ref (ad pz)), (1, .ref (ad i))]) hx hb (fk_get fk_cX1_addedByClauses_2 14 rfl) hl (k := 4) rfl ((nI_1 k)) (by decide) rfl (fun ls hl => ?_)
        refine lv_goto (tgt := 7) hx hb (fk_get fk_cX1_addedByClauses_2 15 rfl) (by decide) ?_
        exact ih (k + 1) (v2) (((v3 <<< (1 &&& 31)) ||| 0)) ls (by omega) (by omega) ((fold_step (by omega) (by first | exact sx_18 (by rw [← hcd1]; assumption) | exact sx_19 (by rw [← hcd1]; assumption) | exact sx_20 (by rw [← hcd1]; assumption) | (rw [sx_21 (by rw [← hcd1]; assumption), ← hcd2]; done) | exact sx_dt (by rw [← hcd1]; assumption) (by rw [← hcd1]; assumption) (by rw [← hcd1]; assumption) (by rw [← hcd1]; assumption) (by rw [← hcd1, ← hcd2]; exact cmpB_t (by assumption)) | exact sx_df (by rw [← hcd1]; assumption) (by rw [← hcd1]; assumption) (by rw [← hcd1]; assumption) (by rw [← hcd1]; assumption) (by rw [← hcd1, ← hcd2]; exact cmpB_f (by assumption))) hI)) (lv_sub hl [0, 1, 5, 6, 7] rfl)
      have p_c_12 := if1_t hw_11 c_12
      refine lv_iconst (v := 1) hx hb (fk_get fk_cX1_addedByClauses_2 9 rfl) (by decide) ?_
      refine lv_goto (tgt := 149) hx hb (fk_get fk_cX1_addedByClauses_2 10 rfl) (by decide) ?_
      refine lv_ior hx hb (fk_get fk_cX1_addedByClauses_2 12 rfl) ?_
      refine lv_istore_n (lv' := [(3, .int (((v3 <<< (1 &&& 31)) ||| 1))), (7, .int ((val6 (fF S i 0) (nI q) (fF S i 5) (fF S i 6) (fF S i 7) (fF S i 8) (fA S a_z k / 3)))), (6, .int ((v3 &&& 1))), (5, .int ((fA S a_z k))), (4, .int ((nI k))), (2, .int (v2)), (0, .ref (ad pz)), (1, .ref (ad i))]) hx hb (fk_get fk_cX1_addedByClauses_2 13 rfl) rfl hl (by decide) rfl (fun ls hl => ?_)
      refine lv_iinc (v := (nI (k + 1))) (lv' := [(4, .int ((nI (k + 1)))), (3, .int (((v3 <<< (1 &&& 31)) ||| 1))), (7, .int ((val6 (fF S i 0) (nI q) (fF S i 5) (fF S i 6) (fF S i 7) (fF S i 8) (fA S a_z k / 3)))), (6, .int ((v3 &&& 1))), (5, .int ((fA S a_z k))), (2, .int (v2)), (0, .ref (ad pz)), (1, .ref (ad i))]) hx hb (fk_get fk_cX1_addedByClauses_2 14 rfl) hl (k := 4) rfl ((nI_1 k)) (by decide) rfl (fun ls hl => ?_)
      refine lv_goto (tgt := 7) hx hb (fk_get fk_cX1_addedByClauses_2 15 rfl) (by decide) ?_
      exact ih (k + 1) (v2) (((v3 <<< (1 &&& 31)) ||| 1)) ls (by omega) (by omega) ((fold_step (by omega) (by first | exact sx_18 (by rw [← hcd1]; assumption) | exact sx_19 (by rw [← hcd1]; assumption) | exact sx_20 (by rw [← hcd1]; assumption) | (rw [sx_21 (by rw [← hcd1]; assumption), ← hcd2]; done) | exact sx_dt (by rw [← hcd1]; assumption) (by rw [← hcd1]; assumption) (by rw [← hcd1]; assumption) (by rw [← hcd1]; assumption) (by rw [← hcd1, ← hcd2]; exact cmpB_t (by assumption)) | exact sx_df (by rw [← hcd1]; assumption) (by rw [← hcd1]; assumption) (by rw [← hcd1]; assumption) (by rw [← hcd1]; assumption) (by rw [← hcd1, ← hcd2]; exact cmpB_f (by assumption))) hI)) (lv_sub hl [0, 1, 5, 6, 7] rfl)
  exact lp_1 (L_z + 1) (0) (0) (0) ls (by omega) (by omega) (rfl) (lv_sub hl [0, 1, 2, 3, 4] rfl)
/-- how much more is cut -/
def moX (off tr ad : Int32) : Int32 := if 0 < off + tr + ad then off + tr + ad else 0
/-- a customer's kind, the shop's counter -/
def CuX (S : FS) (h i q pz : Nat) (pr ln : Int32) (L : Cds) : Prop := fR S i 2 = some (2 + q) ∧ q < 7 ∧ fR S (9 + h) 7 = some pz ∧ COK S pz ∧ CTX S pz pr ln L
