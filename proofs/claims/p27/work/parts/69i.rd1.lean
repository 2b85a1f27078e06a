/-- the text: z signs -/
def TXz (S : FS) (z : Nat) (τ : Nat → Int32) : Prop := fF S 57 1 = nI z ∧ z ≤ 100 ∧ (∀ k, k < z → ∃ b, b < 128 ∧ fA S 58 k = nI b) ∧ hrS (fA S 58) z = τ
theorem TXz.fr {P : Nat → Nat → Prop} {S S' : FS} {z : Nat} {τ : Nat → Int32} (h : TXz S z τ) (hF : Fr P S S') (n1 : ¬ P 57 1) (n2 : ¬ P 58 99) : TXz S' z τ := by
  have e := hF.A (j := 58) (lt71 (by omega)) n2
  exact ⟨(hF.F (lt71 (by omega)) n1).trans h.1, h.2.1, fun k hk => by rw [e]; exact h.2.2.1 k hk, by rw [e]; exact h.2.2.2⟩
theorem TXz.lt {S : FS} {z p : Nat} {τ : Nat → Int32} {c : Int32} (h : TXz S z τ) (e : τ p = c) (hc : ¬ c = -1) : p < z := hrs_lt (f := fA S 58) (by rw [h.2.2.2]; exact e) hc
theorem TXz.one {S : FS} {z : Nat} {τ : Nat → Int32} (h : TXz S z τ) (d : Nat) : GP z (oneP cdA τ d) := by rw [← h.2.2.2]; exact one_good d
theorem TXz.all {S : FS} {z : Nat} {τ : Nat → Int32} (h : TXz S z τ) (d : Nat) : GP z (allP cdA (oneP cdA τ d) τ) := by rw [← h.2.2.2]; exact all_good (one_good d)
theorem TXz.any {S : FS} {z : Nat} {τ : Nat → Int32} (h : TXz S z τ) (d : Nat) : GP z (anyP cdA (oneP cdA τ d) τ) := by rw [← h.2.2.2]; exact any_good (one_good d)
theorem TXz.num {S : FS} {z p : Nat} {τ : Nat → Int32} (h : TXz S z τ) (hp : p ≤ z) : p ≤ (numP τ p).2 ∧ (numP τ p).2 ≤ z ∧ ((numP τ p).1 ≠ none → p + 1 ≤ (numP τ p).2) := by rw [← h.2.2.2]; exact num_good hp
/-- what takes() does -/
def TkP (τ : Nat → Int32) (p : Nat) (c r : Int32) (S' : FS) : Prop := (r = 1 ∧ τ p = c ∧ fF S' 57 2 = nI (p + 1)) ∨ (r = 0 ∧ ¬ τ p = c ∧ fF S' 57 2 = nI p)
def NuP (τ : Nat → Int32) (p : Nat) (r : Int32) (S' : FS) : Prop := fF S' 57 2 = nI (numP τ p).2 ∧ (((numP τ p).1 = none ∧ r = 0) ∨ ∃ n, (numP τ p).1 = some n ∧ r = 1 ∧ fF S' 57 8 = n)
theorem num_0 {τ : Nat → Int32} {p : Nat} (h : ¬ dgt (τ p)) : numP τ p = (none, p) := by unfold numP; rw [if_neg h]
theorem num_1 {τ : Nat → Int32} {p : Nat} (h : dgt (τ p)) (k : ¬ dgt (τ (p + 1))) : numP τ p = (some (τ p - 48), p + 1) := by unfold numP; rw [if_pos h, if_neg k]
theorem num_2 {τ : Nat → Int32} {p : Nat} (h : dgt (τ p)) (k : dgt (τ (p + 1))) : numP τ p = (some (10 * (τ p - 48) + (τ (p + 1) - 48)), p + 2) := by unfold numP; rw [if_pos h, if_pos k]
theorem i32_num (a b : Int32) : a * 10 + b - 48 = 10 * a + (b - 48) := by rw [Int32.mul_comm a 10, Int32.sub_eq_add_neg, Int32.sub_eq_add_neg, Int32.add_assoc]
/-- where a sign stands in a word -/
def IxP (bs : List Int32) (c r : Int32) : Prop := (∃ i, i < bs.length ∧ bs.getD i 0 = c ∧ (∀ k, k < i → ¬ bs.getD k 0 = c) ∧ r = nI i) ∨ ((∀ i, i < bs.length → ¬ bs.getD i 0 = c) ∧ r = -1)
theorem byt_len {k : Nat} (h : k < 6) : (bytS.getD k []).length = lenS.getD k 0 := by
  rcases (show k = 0 ∨ k = 1 ∨ k = 2 ∨ k = 3 ∨ k = 4 ∨ k = 5 by omega) with rfl | rfl | rfl | rfl | rfl | rfl <;> rfl
theorem sg_b {b : Nat} (h : b < 128) : (nI b).toInt8.toInt32 = nI b := by
  apply Int32.toInt_inj.mp
  rw [Int8.toInt_toInt32, Int32.toInt_toInt8, nI_toInt (by omega), Int.bmod_eq_of_le (by omega) (by omega)]
set_option maxHeartbeats 800000 in
set_option maxRecDepth 100000 in
theorem c_x9_sig (l : Launch) (G : GG) (ad : Nat → Nat) (S : FS) (sz : Nat) (z j : Nat) (τ : Nat → Int32) (hTx : TXz S z τ) (hj : j ≤ 300) (hX : XI S) : Met l yX9_signAt (Cond.code yX9_signAt cX9_signAt 2 (some .int) :: TBL) ({ frames := 2, cells := 0, slots := 0, locals := 64 } : Room) (PcW G (wX G ad S) sz [.ref (ad 57), .int ((nI j))]) (vp_Si (fun (r : Int32) => r = τ j)) 0 0 (fun _ => False) := by
  refine Met.ofW (cc := cX9_signAt) (maxL := 2) (ret := (some .int)) (by decide) rfl ?_
  intro p e s m args below meth c₀ s₁ B hml hv
  obtain ⟨rfl, hsz, hP, hK, hD0⟩ := hv
  have hx := B.exec
  have hb := B.bytes
  have hr := B.returns
  have hT : ∀ w ∈ TBL, w.before ([.ref (ad 57), .int ((nI j))] : List Value).toArray s = true := fun w h => atoms_spec (ws := Cond.code yX9_signAt cX9_signAt 2 (some .int) :: TBL) B.pre w (List.mem_cons_of_mem _ h)
  have hown : s.vm.findClass "LittleMore$Text" = some m.cls := findClass_of_methodNamed B.named
  have hlocks := B.notSynchronized
  have hD := hD0
  have hP : va_P G.1 vwCl (wX G ad S) s.heap := hP
  have hl := lv_entry ([.ref (ad 57), .int ((nI j))]) (n := 2) (Nat.le_of_ble_eq_true rfl)
  rw [lg_entry_eq]
  generalize (lg_sl ([.ref (ad 57), .int ((nI j))]) ++ List.replicate (2 - (lg_sl ([.ref (ad 57), .int ((nI j))])).length) Slot.unset).toArray = ls at hl ⊢
  have hl : lv_has ls 2 [(0, .ref (ad 57)), (1, .int ((nI j)))] := hl
  refine W_abs (fun Q hQ => ?_)
  generalize ([.ref (ad 57), .int ((nI j))] : List Value).toArray = args at hT hQ ⊢
  have hz1 := hTx.2.1
  refine lv_iload_n hx hb (fk_get fk_cX9_signAt_0 0 rfl) rfl (lv_at hl 1 rfl) ?_
  refine lv_if_lt (tgt := 21) hx hb (fk_get fk_cX9_signAt_0 1 rfl) (by decide) (fun c_1 => absurd c_1 (nI_pos (by omega))) (fun _ => ?_)
  refine lv_iload_n hx hb (fk_get fk_cX9_signAt_0 2 rfl) rfl (lv_at hl 1 rfl) ?_
  refine lv_aload_n hx hb (fk_get fk_cX9_signAt_0 3 rfl) rfl (lv_at hl 0 rfl) ?_
  refine va_get (D := G.1) (ci := 11) (v := .int (fF S 57 1)) (C := RX9) (T := TX9) (N := 9) hx hb hT inX9 hown hK hP 57 (ix_at (lt71 (by omega)) (cX_text G ad S)) rfl 1 (by decide) (hT _ m2_3) (fun _ h9 => h9) rfl (fk_get fk_cX9_signAt_0 4 rfl) ?_
  rw [hTx.1]
  refine lv_icmp_ge (tgt := 21) hx hb (fk_get fk_cX9_signAt_0 5 rfl) (by decide) (fun c_2 => ?_) (fun c_2 => ?_)
  · have q_c_2 : z ≤ j := ci_le (a := z) (b := j) (by omega) (by omega) c_2
    have hge : ¬ j < z := Nat.not_lt.mpr ((nI_leI (a := z) (b := j) (by omega) (by omega)).mp c_2)
    refine lv_iconst (v := (-1)) hx hb (fk_get fk_cX9_signAt_0 11 rfl) (by decide) ?_
    subst hQ
    have hpost : ((-1) : Int32) = τ j := by
      rw [← hTx.2.2.2]
      unfold hrS
      first | (rw [if_pos (by assumption)]; done) | (rw [if_neg (by assumption)]; done)
    exact W.iret (v := (-1)) hx hb hr (fun t_ ht_ hW_ => ⟨(-1), rfl, hpost, ht_⟩) (fun q h => by cases h) (fk_get fk_cX9_signAt_0 12 rfl)
  have q_c_2 : j < z := ci_nle (a := z) (b := j) (by omega) (by omega) c_2
  have hlt : j < z := Nat.lt_of_not_le (fun q => c_2 ((nI_leI (a := z) (b := j) (by omega) (by omega)).mpr q))
  refine lv_aload_n hx hb (fk_get fk_cX9_signAt_0 6 rfl) rfl (lv_at hl 0 rfl) ?_
  refine va_get (D := G.1) (ci := 11) (v := .ref (ad 58)) (C := RX9) (T := TX9) (N := 9) hx hb hT inX9 hown hK hP 57 (ix_at (lt71 (by omega)) (cX_text G ad S)) rfl 0 (by decide) (hT _ m2_1) (fun _ h9 => h9) rfl (fk_get fk_cX9_signAt_0 7 rfl) ?_
  refine lv_iload_n hx hb (fk_get fk_cX9_signAt_0 8 rfl) rfl (lv_at hl 1 rfl) ?_
  refine r_bald (f := fA S 58) hx hb hK hP 58 2 (ix_at (lt71 (by omega)) (cX_arr (show isA 58 2 100 from by decide))) rfl (j := j) (rfl) (by omega) (by decide) (fk_get fk_cX9_signAt_0 9 rfl) ?_
  refine lv_goto (tgt := 22) hx hb (fk_get fk_cX9_signAt_0 10 rfl) (by decide) ?_
  subst hQ
  have hpost : ((fA S 58 j) : Int32) = τ j := by
    rw [← hTx.2.2.2]
    unfold hrS
    first | (rw [if_pos (by assumption)]; done) | (rw [if_neg (by assumption)]; done)
  exact W.iret (v := (fA S 58 j)) hx hb hr (fun t_ ht_ hW_ => ⟨(fA S 58 j), rfl, hpost, ht_⟩) (fun q h => by cases h) (fk_get fk_cX9_signAt_0 12 rfl)
set_option maxHeartbeats 800000 in
set_option maxRecDepth 100000 in
theorem c_x9_takesE (l : Launch) (G : GG) (ad : Nat → Nat) (S : FS) (sz : Nat) (z pz : Nat) (c_ : Int32) (τ : Nat → Int32) (hTx : TXz S z τ) (hp : fF S 57 2 = nI pz) (hp1 : pz ≤ 200) (hX : XI S) : Met l yX9_takes (Cond.code yX9_takes cX9_takes 2 (some .boolean) :: TBL) ({ frames := 3, cells := 0, slots := 0, locals := 89 } : Room) (PcW G (wX G ad S) sz [.ref (ad 57), .int (c_)]) (va_Qi (fun (r : Int32) (S' : FS) => XI S' ∧ Fr (fun j k => j = 57 ∧ k = 2) S S' ∧ TkP τ pz c_ r S') (fun S' t => BW G (va_A (wX G ad S) sz) (wX G ad S') t) (va_A (wX G ad S) sz)) 0 0 (va_A (wX G ad S) sz) := by
  refine Met.ofW (cc := cX9_takes) (maxL := 2) (ret := (some .boolean)) (by decide) rfl ?_
  intro p e s m args below meth c₀ s₁ B hml hv
  obtain ⟨rfl, hsz, hP, hK, hD0⟩ := hv
  have hx := B.exec
  have hb := B.bytes
  have hr := B.returns
  have hT : ∀ w ∈ TBL, w.before ([.ref (ad 57), .int (c_)] : List Value).toArray s = true := fun w h => atoms_spec (ws := Cond.code yX9_takes cX9_takes 2 (some .boolean) :: TBL) B.pre w (List.mem_cons_of_mem _ h)
  have hown : s.vm.findClass "LittleMore$Text" = some m.cls := findClass_of_methodNamed B.named
  have hlocks := B.notSynchronized
  subst hsz
  have hD := hD0.self (sz := s.heap.size)
  generalize hAe : va_A (wX G ad S) s.heap.size = A at hD ⊢
  have hA : ∀ q : Nat, s.heap.size ≤ q → A q := fun q h => by rw [← hAe]; exact Or.inr h
  have hS : va_S A s.heap s.heap [] := va_S.rf
  have hP : va_P G.1 vwCl (wX G ad S) s.heap := hP
  have hl := lv_entry ([.ref (ad 57), .int (c_)]) (n := 2) (Nat.le_of_ble_eq_true rfl)
  rw [lg_entry_eq]
  generalize (lg_sl ([.ref (ad 57), .int (c_)]) ++ List.replicate (2 - (lg_sl ([.ref (ad 57), .int (c_)])).length) Slot.unset).toArray = ls at hl ⊢
  have hl : lv_has ls 2 [(0, .ref (ad 57)), (1, .int (c_))] := hl
  refine W_abs (fun Q hQ => ?_)
  generalize ([.ref (ad 57), .int (c_)] : List Value).toArray = args at hT hQ ⊢
  have hz1 := hTx.2.1
  refine lv_aload_n hx hb (fk_get fk_cX9_takes_0 0 rfl) rfl (lv_at hl 0 rfl) ?_
  refine lv_aload_n hx hb (fk_get fk_cX9_takes_0 1 rfl) rfl (lv_at hl 0 rfl) ?_
  refine va_get (D := G.1) (ci := 11) (v := .int (fF S 57 2)) (C := RX9) (T := TX9) (N := 9) hx hb hT inX9 hown hK hP 57 (ix_at (lt71 (by omega)) (cX_text G ad S)) rfl 2 (by decide) (hT _ m2_5) (fun _ h9 => h9) rfl (fk_get fk_cX9_takes_0 2 rfl) ?_
  rw [show (fF S 57 2) = (nI pz) from hp]
  refine vp_callSi (W.runV (As := [.int ((nI pz))]) (rest := []) ⟨hx, hb, hml, hown, hT⟩ (c_x9_sig l G ad S s.heap.size (z) (pz) (τ) (by first | assumption | exact hTx) (by first | assumption | omega) (hX)) (tV 1 hT m2_217 m2_219 mp_1 m1_12 m2_220 rfl rfl (by decide +kernel) ⟨Nat.le_of_ble_eq_true rfl, Nat.le_of_ble_eq_true rfl⟩) ⟨PcW_blind, va_recv hK hP (ci := 11) (q0 := 57) rfl (ix_at (lt71 (by omega)) (cX_text G ad S)), PcW_of hP hK hD _⟩ rfl rfl hl.1 rfl (lv_room (Nat.le_of_ble_eq_true rfl)) (fk_get fk_cX9_takes_0 3 rfl) ⟨Nat.zero_le _, Nat.zero_le _⟩) (fun r_1 hw_2 => ?_)
  try dsimp only at hw_2
  subst hw_2
  refine lv_iload_n hx hb (fk_get fk_cX9_takes_0 4 rfl) rfl (lv_at hl 1 rfl) ?_
  refine lv_icmp_eq (tgt := 14) hx hb (fk_get fk_cX9_takes_0 5 rfl) (by decide) (fun c_3 => ?_) (fun c_3 => ?_)
  · refine lv_aload_n hx hb (fk_get fk_cX9_takes_0 8 rfl) rfl (lv_at hl 0 rfl) ?_
    refine lv_dup hx hb (fk_get fk_cX9_takes_0 9 rfl) rfl ?_
    refine va_get (D := G.1) (ci := 11) (v := .int (fF S 57 2)) (C := RX9) (T := TX9) (N := 9) hx hb hT inX9 hown hK hP 57 (ix_at (lt71 (by omega)) (cX_text G ad S)) rfl 2 (by decide) (hT _ m2_5) (fun _ h9 => h9) rfl (fk_get fk_cX9_takes_0 10 rfl) ?_
    refine lv_iconst (v := 1) hx hb (fk_get fk_cX9_takes_0 11 rfl) (by decide) ?_
    refine lv_iadd hx hb (fk_get fk_cX9_takes_0 12 rfl) ?_
    rw [show ((fF S 57 2) + 1) = (nI (pz + 1)) from (by rw [hp]; exact nI_1 pz)]
    refine va_put (D := G.1) (ci := 11) (v := .int ((nI (pz + 1)))) (ty := .int) (C := RX9) (T := TX9) (N := 9) hx hb hT inX9 tyX9 tyX9_ok nmX9 hown hK hP hD hS 57 (ix_at (lt71 (by omega)) (cX_text G ad S)) rfl 2 (by decide) (hT _ m2_5) (fun _ h9 => h9) rfl (by decide +kernel) rfl rfl (Nat.le_of_ble_eq_true rfl) (fk_get fk_cX9_takes_0 13 rfl) (fun H locs hP hD hS => ?_)
    rw [pX_text_2 (S := S) ((nI (pz + 1)))] at hP hD
    have hX_4 : XI (setF S 57 2 ((nI (pz + 1)))) := XI.sF hX _ ⟨by omega, by omega, by omega, by omega, by omega, by omega, by omega, by omega⟩
    have hF_5 : Fr (fun j k => j = 57 ∧ k = 2) S (setF S 57 2 ((nI (pz + 1)))) := Fr.sF (Fr.rf : Fr (fun j k => j = 57 ∧ k = 2) S S) (by omega)
    refine lv_iconst (v := 1) hx hb (fk_get fk_cX9_takes_0 14 rfl) (by decide) ?_
    subst hQ
    have hpost : XI (setF S 57 2 ((nI (pz + 1)))) ∧ Fr (fun j k => j = 57 ∧ k = 2) S (setF S 57 2 ((nI (pz + 1)))) ∧ TkP τ pz c_ (1 : Int32) (setF S 57 2 ((nI (pz + 1)))) := by
      exact ⟨hX_4, hF_5, by first | exact Or.inl ⟨rfl, by assumption, by simp only [fF_setF]; rfl⟩ | exact Or.inr ⟨rfl, by assumption, hp⟩⟩
    exact W.zret (v := 1) hx hb hr rfl (fun t_ ht_ hW_ => ⟨⟨1, (setF S 57 2 ((nI (pz + 1)))), rfl, hpost, by rw [ht_]; exact hP, va_K.moved hW_.alike hK, hD⟩, hS.F ht_⟩) hS.2.2 (fk_get fk_cX9_takes_0 15 rfl)
  refine lv_iconst (v := 0) hx hb (fk_get fk_cX9_takes_0 6 rfl) (by decide) ?_
  subst hQ
  have hpost : XI S ∧ Fr (fun j k => j = 57 ∧ k = 2) S S ∧ TkP τ pz c_ (0 : Int32) S := by
    exact ⟨hX, (Fr.rf : Fr (fun j k => j = 57 ∧ k = 2) S S), by first | exact Or.inl ⟨rfl, by assumption, by simp only [fF_setF]; rfl⟩ | exact Or.inr ⟨rfl, by assumption, hp⟩⟩
  exact W.zret (v := 0) hx hb hr rfl (fun t_ ht_ hW_ => ⟨⟨0, S, rfl, hpost, by rw [ht_]; exact hP, va_K.moved hW_.alike hK, hD⟩, hS.F ht_⟩) hS.2.2 (fk_get fk_cX9_takes_0 7 rfl)
set_option maxHeartbeats 800000 in
set_option maxRecDepth 100000 in
theorem c_x9_putE (l : Launch) (G : GG) (ad : Nat → Nat) (S : FS) (sz : Nat) (c : Nat) (c_ x : Int32) (hc : fF S 57 7 = nI c) (hc1 : c < 100) (hX : XI S) : Met l yX9_putCode (Cond.code yX9_putCode cX9_putCode 3 (some .boolean) :: TBL) ({ frames := 2, cells := 0, slots := 0, locals := 64 } : Room) (PcW G (wX G ad S) sz [.ref (ad 57), .int (c_), .int (x)]) (va_Qi (fun (r : Int32) (S' : FS) => XI S' ∧ Fr (fun j k => (j = 57 ∧ k = 7) ∨ ((j = 59 ∨ j = 60) ∧ k = 99)) S S' ∧ r = 1 ∧ fF S' 57 7 = nI (c + 1) ∧ fA S' 59 = upd (fA S 59) c c_ ∧ fA S' 60 = upd (fA S 60) c x) (fun S' t => BW G (va_A (wX G ad S) sz) (wX G ad S') t) (va_A (wX G ad S) sz)) 0 0 (va_A (wX G ad S) sz) := by
  refine Met.ofW (cc := cX9_putCode) (maxL := 3) (ret := (some .boolean)) (by decide) rfl ?_
  intro p e s m args below meth c₀ s₁ B hml hv
  obtain ⟨rfl, hsz, hP, hK, hD0⟩ := hv
  have hx := B.exec
  have hb := B.bytes
  have hr := B.returns
  have hT : ∀ w ∈ TBL, w.before ([.ref (ad 57), .int (c_), .int (x)] : List Value).toArray s = true := fun w h => atoms_spec (ws := Cond.code yX9_putCode cX9_putCode 3 (some .boolean) :: TBL) B.pre w (List.mem_cons_of_mem _ h)
  have hown : s.vm.findClass "LittleMore$Text" = some m.cls := findClass_of_methodNamed B.named
  have hlocks := B.notSynchronized
  subst hsz
  have hD := hD0.self (sz := s.heap.size)
  generalize hAe : va_A (wX G ad S) s.heap.size = A at hD ⊢
  have hA : ∀ q : Nat, s.heap.size ≤ q → A q := fun q h => by rw [← hAe]; exact Or.inr h
  have hS : va_S A s.heap s.heap [] := va_S.rf
  have hP : va_P G.1 vwCl (wX G ad S) s.heap := hP
  have hl := lv_entry ([.ref (ad 57), .int (c_), .int (x)]) (n := 3) (Nat.le_of_ble_eq_true rfl)
  rw [lg_entry_eq]
  generalize (lg_sl ([.ref (ad 57), .int (c_), .int (x)]) ++ List.replicate (3 - (lg_sl ([.ref (ad 57), .int (c_), .int (x)])).length) Slot.unset).toArray = ls at hl ⊢
  have hl : lv_has ls 3 [(0, .ref (ad 57)), (1, .int (c_)), (2, .int (x))] := hl
  refine W_abs (fun Q hQ => ?_)
  generalize ([.ref (ad 57), .int (c_), .int (x)] : List Value).toArray = args at hT hQ ⊢
  refine lv_aload_n hx hb (fk_get fk_cX9_putCode_0 0 rfl) rfl (lv_at hl 0 rfl) ?_
  refine va_get (D := G.1) (ci := 11) (v := .int (fF S 57 7)) (C := RX9) (T := TX9) (N := 9) hx hb hT inX9 hown hK hP 57 (ix_at (lt71 (by omega)) (cX_text G ad S)) rfl 7 (by decide) (hT _ m2_15) (fun _ h9 => h9) rfl (fk_get fk_cX9_putCode_0 1 rfl) ?_
  rw [hc]
  refine lv_bipush (v := 100) hx hb (fk_get fk_cX9_putCode_0 2 rfl) (by decide) ?_
  refine lv_icmp_lt (tgt := 11) hx hb (fk_get fk_cX9_putCode_0 3 rfl) (by decide) (fun _ => ?_) (fun c_1 => absurd ((nI_lt hc1 (by omega))) c_1)
  refine lv_aload_n hx hb (fk_get fk_cX9_putCode_0 4 rfl) rfl (lv_at hl 0 rfl) ?_
  refine va_get (D := G.1) (ci := 11) (v := .ref (ad 59)) (C := RX9) (T := TX9) (N := 9) hx hb hT inX9 hown hK hP 57 (ix_at (lt71 (by omega)) (cX_text G ad S)) rfl 5 (by decide) (hT _ m2_11) (fun _ h9 => h9) rfl (fk_get fk_cX9_putCode_0 5 rfl) ?_
  refine lv_aload_n hx hb (fk_get fk_cX9_putCode_0 6 rfl) rfl (lv_at hl 0 rfl) ?_
  refine va_get (D := G.1) (ci := 11) (v := .int (fF S 57 7)) (C := RX9) (T := TX9) (N := 9) hx hb hT inX9 hown hK hP 57 (ix_at (lt71 (by omega)) (cX_text G ad S)) rfl 7 (by decide) (hT _ m2_15) (fun _ h9 => h9) rfl (fk_get fk_cX9_putCode_0 7 rfl) ?_
  rw [hc]
  refine lv_iload_n hx hb (fk_get fk_cX9_putCode_0 8 rfl) rfl (lv_at hl 1 rfl) ?_
  refine r_iast hx hb hK hP hD hS 59 0 (ix_at (lt71 (by omega)) (cX_arr (show isA 59 0 100 from by decide))) rfl (j := c) (rfl) (by omega) (by decide) (fk_get fk_cX9_putCode_0 9 rfl) (fun H locs hP hD hS => ?_)
  rw [pX_arr (G := G) (ad := ad) (S := S) (lt71 (by omega)) (show isA 59 0 100 from by decide) (upd (fA S 59) c (c_))] at hP hD
  have hX_2 : XI (setA S 59 (upd (fA S 59) c (c_))) := XI.sA hX _ (by omega)
  have hF_3 : Fr (fun j k => (j = 57 ∧ k = 7) ∨ ((j = 59 ∨ j = 60) ∧ k = 99)) S (setA S 59 (upd (fA S 59) c (c_))) := Fr.sA (Fr.rf : Fr (fun j k => (j = 57 ∧ k = 7) ∨ ((j = 59 ∨ j = 60) ∧ k = 99)) S S) (by omega)
  refine lv_aload_n hx hb (fk_get fk_cX9_putCode_0 10 rfl) rfl (lv_at hl 0 rfl) ?_
  refine va_get (D := G.1) (ci := 11) (v := .ref (ad 60)) (C := RX9) (T := TX9) (N := 9) hx hb hT inX9 hown hK hP 57 (ix_at (lt71 (by omega)) (cX_text G ad (setA S 59 (upd (fA S 59) c (c_))))) rfl 6 (by decide) (hT _ m2_13) (fun _ h9 => h9) rfl (fk_get fk_cX9_putCode_0 11 rfl) ?_
  refine lv_aload_n hx hb (fk_get fk_cX9_putCode_0 12 rfl) rfl (lv_at hl 0 rfl) ?_
  refine va_get (D := G.1) (ci := 11) (v := .int (fF (setA S 59 (upd (fA S 59) c (c_))) 57 7)) (C := RX9) (T := TX9) (N := 9) hx hb hT inX9 hown hK hP 57 (ix_at (lt71 (by omega)) (cX_text G ad (setA S 59 (upd (fA S 59) c (c_))))) rfl 7 (by decide) (hT _ m2_15) (fun _ h9 => h9) rfl (fk_get fk_cX9_putCode_0 13 rfl) ?_
  rw [show fF (setA S 59 (upd (fA S 59) c (c_))) 57 7 = (fF S 57 7) from by simp [fF_setF, fF_setR, fF_setA, fF_setL]]
  rw [hc]
  refine lv_iload_n hx hb (fk_get fk_cX9_putCode_0 14 rfl) rfl (lv_at hl 2 rfl) ?_
  refine r_iast hx hb hK hP hD hS 60 0 (ix_at (lt71 (by omega)) (cX_arr (show isA 60 0 100 from by decide))) rfl (j := c) (rfl) (by omega) (by decide) (fk_get fk_cX9_putCode_0 15 rfl) (fun H locs hP hD hS => ?_)
  rw [pX_arr (G := G) (ad := ad) (S := (setA S 59 (upd (fA S 59) c (c_)))) (lt71 (by omega)) (show isA 60 0 100 from by decide) (upd (fA (setA S 59 (upd (fA S 59) c (c_))) 60) c (x))] at hP hD
  have hX_4 : XI (setA (setA S 59 (upd (fA S 59) c (c_))) 60 (upd (fA (setA S 59 (upd (fA S 59) c (c_))) 60) c (x))) := XI.sA hX_2 _ (by omega)
  have hF_5 : Fr (fun j k => (j = 57 ∧ k = 7) ∨ ((j = 59 ∨ j = 60) ∧ k = 99)) S (setA (setA S 59 (upd (fA S 59) c (c_))) 60 (upd (fA (setA S 59 (upd (fA S 59) c (c_))) 60) c (x))) := Fr.sA hF_3 (by omega)
  refine lv_aload_n hx hb (fk_get fk_cX9_putCode_0 16 rfl) rfl (lv_at hl 0 rfl) ?_
  refine lv_dup hx hb (fk_get fk_cX9_putCode_0 17 rfl) rfl ?_
  refine va_get (D := G.1) (ci := 11) (v := .int (fF (setA (setA S 59 (upd (fA S 59) c (c_))) 60 (upd (fA (setA S 59 (upd (fA S 59) c (c_))) 60) c (x))) 57 7)) (C := RX9) (T := TX9) (N := 9) hx hb hT inX9 hown hK hP 57 (ix_at (lt71 (by omega)) (cX_text G ad (setA (setA S 59 (upd (fA S 59) c (c_))) 60 (upd (fA (setA S 59 (upd (fA S 59) c (c_))) 60) c (x))))) rfl 7 (by decide) (hT _ m2_15) (fun _ h9 => h9) rfl (fk_get fk_cX9_putCode_0 18 rfl) ?_
  rw [show fF (setA (setA S 59 (upd (fA S 59) c (c_))) 60 (upd (fA (setA S 59 (upd (fA S 59) c (c_))) 60) c (x))) 57 7 = (fF S 57 7) from by simp [fF_setF, fF_setR, fF_setA, fF_setL]]
  rw [hc]
  refine lv_iconst (v := 1) hx hb (fk_get fk_cX9_putCode_0 19 rfl) (by decide) ?_
  refine lv_iadd hx hb (fk_get fk_cX9_putCode_0 20 rfl) ?_
  rw [show ((nI c) + 1) = (nI (c + 1)) from (nI_1 c)]
  refine va_put (D := G.1) (ci := 11) (v := .int ((nI (c + 1)))) (ty := .int) (C := RX9) (T := TX9) (N := 9) hx hb hT inX9 tyX9 tyX9_ok nmX9 hown hK hP hD hS 57 (ix_at (lt71 (by omega)) (cX_text G ad (setA (setA S 59 (upd (fA S 59) c (c_))) 60 (upd (fA (setA S 59 (upd (fA S 59) c (c_))) 60) c (x))))) rfl 7 (by decide) (hT _ m2_15) (fun _ h9 => h9) rfl (by decide +kernel) rfl rfl (Nat.le_of_ble_eq_true rfl) (fk_get fk_cX9_putCode_0 21 rfl) (fun H locs hP hD hS => ?_)
  rw [pX_text_7 (S := (setA (setA S 59 (upd (fA S 59) c (c_))) 60 (upd (fA (setA S 59 (upd (fA S 59) c (c_))) 60) c (x)))) ((nI (c + 1)))] at hP hD
  have hX_6 : XI (setF (setA (setA S 59 (upd (fA S 59) c (c_))) 60 (upd (fA (setA S 59 (upd (fA S 59) c (c_))) 60) c (x))) 57 7 ((nI (c + 1)))) := XI.cc (n := (c + 1)) hX_4 (by omega)
  have hF_7 : Fr (fun j k => (j = 57 ∧ k = 7) ∨ ((j = 59 ∨ j = 60) ∧ k = 99)) S (setF (setA (setA S 59 (upd (fA S 59) c (c_))) 60 (upd (fA (setA S 59 (upd (fA S 59) c (c_))) 60) c (x))) 57 7 ((nI (c + 1)))) := Fr.sF hF_5 (by omega)
  refine lv_iconst (v := 1) hx hb (fk_get fk_cX9_putCode_0 22 rfl) (by decide) ?_
  subst hQ
  have hpost : XI (setF (setA (setA S 59 (upd (fA S 59) c (c_))) 60 (upd (fA (setA S 59 (upd (fA S 59) c (c_))) 60) c (x))) 57 7 ((nI (c + 1)))) ∧ Fr (fun j k => (j = 57 ∧ k = 7) ∨ ((j = 59 ∨ j = 60) ∧ k = 99)) S (setF (setA (setA S 59 (upd (fA S 59) c (c_))) 60 (upd (fA (setA S 59 (upd (fA S 59) c (c_))) 60) c (x))) 57 7 ((nI (c + 1)))) ∧ (1 : Int32) = 1 ∧ fF (setF (setA (setA S 59 (upd (fA S 59) c (c_))) 60 (upd (fA (setA S 59 (upd (fA S 59) c (c_))) 60) c (x))) 57 7 ((nI (c + 1)))) 57 7 = nI (c + 1) ∧ fA (setF (setA (setA S 59 (upd (fA S 59) c (c_))) 60 (upd (fA (setA S 59 (upd (fA S 59) c (c_))) 60) c (x))) 57 7 ((nI (c + 1)))) 59 = upd (fA S 59) c c_ ∧ fA (setF (setA (setA S 59 (upd (fA S 59) c (c_))) 60 (upd (fA (setA S 59 (upd (fA S 59) c (c_))) 60) c (x))) 57 7 ((nI (c + 1)))) 60 = upd (fA S 60) c x := by
    exact ⟨hX_6, hF_7, ⟨rfl, by simp only [fF_setF, fF_setA]; rfl, by simp only [fA_setF, fA_setA]; rfl, by simp only [fA_setF, fA_setA]; rfl⟩⟩
  exact W.zret (v := 1) hx hb hr rfl (fun t_ ht_ hW_ => ⟨⟨1, (setF (setA (setA S 59 (upd (fA S 59) c (c_))) 60 (upd (fA (setA S 59 (upd (fA S 59) c (c_))) 60) c (x))) 57 7 ((nI (c + 1)))), rfl, hpost, by rw [ht_]; exact hP, va_K.moved hW_.alike hK, hD⟩, hS.F ht_⟩) hS.2.2 (fk_get fk_cX9_putCode_0 23 rfl)
set_option maxHeartbeats 800000 in
set_option maxRecDepth 100000 in
theorem c_x9_numE (l : Launch) (G : GG) (ad : Nat → Nat) (S : FS) (sz : Nat) (z pz : Nat) (τ : Nat → Int32) (hTx : TXz S z τ) (hp : fF S 57 2 = nI pz) (hp1 : pz ≤ 200) (hX : XI S) : Met l yX9_readNumber (Cond.code yX9_readNumber cX9_readNumber 1 (some .boolean) :: TBL) ({ frames := 3, cells := 0, slots := 0, locals := 89 } : Room) (PcW G (wX G ad S) sz [.ref (ad 57)]) (va_Qi (fun (r : Int32) (S' : FS) => XI S' ∧ Fr (fun j k => j = 57 ∧ (k = 2 ∨ k = 8)) S S' ∧ NuP τ pz r S') (fun S' t => BW G (va_A (wX G ad S) sz) (wX G ad S') t) (va_A (wX G ad S) sz)) 0 0 (va_A (wX G ad S) sz) := by
  refine Met.ofW (cc := cX9_readNumber) (maxL := 1) (ret := (some .boolean)) (by decide) rfl ?_
  intro p e s m args below meth c₀ s₁ B hml hv
  obtain ⟨rfl, hsz, hP, hK, hD0⟩ := hv
  have hx := B.exec
  have hb := B.bytes
  have hr := B.returns
  have hT : ∀ w ∈ TBL, w.before ([.ref (ad 57)] : List Value).toArray s = true := fun w h => atoms_spec (ws := Cond.code yX9_readNumber cX9_readNumber 1 (some .boolean) :: TBL) B.pre w (List.mem_cons_of_mem _ h)
  have hown : s.vm.findClass "LittleMore$Text" = some m.cls := findClass_of_methodNamed B.named
  have hlocks := B.notSynchronized
  subst hsz
  have hD := hD0.self (sz := s.heap.size)
  generalize hAe : va_A (wX G ad S) s.heap.size = A at hD ⊢
  have hA : ∀ q : Nat, s.heap.size ≤ q → A q := fun q h => by rw [← hAe]; exact Or.inr h
  have hS : va_S A s.heap s.heap [] := va_S.rf
  have hP : va_P G.1 vwCl (wX G ad S) s.heap := hP
  have hl := lv_entry ([.ref (ad 57)]) (n := 1) (Nat.le_of_ble_eq_true rfl)
  rw [lg_entry_eq]
  generalize (lg_sl ([.ref (ad 57)]) ++ List.replicate (1 - (lg_sl ([.ref (ad 57)])).length) Slot.unset).toArray = ls at hl ⊢
  have hl : lv_has ls 1 [(0, .ref (ad 57))] := hl
  refine W_abs (fun Q hQ => ?_)
  generalize ([.ref (ad 57)] : List Value).toArray = args at hT hQ ⊢
  have hz1 := hTx.2.1
  refine lv_aload_n hx hb (fk_get fk_cX9_readNumber_0 0 rfl) rfl (lv_at hl 0 rfl) ?_
  refine lv_aload_n hx hb (fk_get fk_cX9_readNumber_0 1 rfl) rfl (lv_at hl 0 rfl) ?_
  refine va_get (D := G.1) (ci := 11) (v := .int (fF S 57 2)) (C := RX9) (T := TX9) (N := 9) hx hb hT inX9 hown hK hP 57 (ix_at (lt71 (by omega)) (cX_text G ad S)) rfl 2 (by decide) (hT _ m2_5) (fun _ h9 => h9) rfl (fk_get fk_cX9_readNumber_0 2 rfl) ?_
  rw [show (fF S 57 2) = (nI pz) from hp]
  refine vp_callSi (W.runV (As := [.int ((nI pz))]) (rest := []) ⟨hx, hb, hml, hown, hT⟩ (c_x9_sig l G ad S s.heap.size (z) (pz) (τ) (by first | assumption | exact hTx) (by first | assumption | omega) (hX)) (tV 1 hT m2_217 m2_219 mp_1 m1_12 m2_220 rfl rfl (by decide +kernel) ⟨Nat.le_of_ble_eq_true rfl, Nat.le_of_ble_eq_true rfl⟩) ⟨PcW_blind, va_recv hK hP (ci := 11) (q0 := 57) rfl (ix_at (lt71 (by omega)) (cX_text G ad S)), PcW_of hP hK hD _⟩ rfl rfl hl.1 rfl (lv_room (Nat.le_of_ble_eq_true rfl)) (fk_get fk_cX9_readNumber_0 3 rfl) ⟨Nat.zero_le _, Nat.zero_le _⟩) (fun r_1 hw_2 => ?_)
  try dsimp only at hw_2
  subst hw_2
  refine vp_callSi (W.runS (As := [.int ((τ pz))]) (rest := []) ⟨hx, hb, hml, hown, hT⟩ (c_xisDigit l ((τ pz)) ) (tS 1 hT m3_53 m3_54 m1_12 m3_55 rfl rfl (by decide +kernel) ⟨Nat.le_of_ble_eq_true rfl, Nat.le_of_ble_eq_true rfl⟩) ⟨PcN_blind, PcN_of _ _ _⟩ rfl rfl hl.1 rfl (lv_room (Nat.le_of_ble_eq_true rfl)) (fk_get fk_cX9_readNumber_0 4 rfl) ⟨Nat.zero_le _, Nat.zero_le _⟩) (fun r_3 hw_4 => ?_)
  try dsimp only at hw_4
  refine lv_if_ne (tgt := 16) hx hb (fk_get fk_cX9_readNumber_0 5 rfl) (by decide) (fun c_5 => ?_) (fun c_5 => ?_)
  · have p_c_5 := if1_t hw_4 c_5
    have hd0 : dgt (τ pz) := p_c_5
    refine lv_aload_n hx hb (fk_get fk_cX9_readNumber_0 8 rfl) rfl (lv_at hl 0 rfl) ?_
    refine lv_aload_n hx hb (fk_get fk_cX9_readNumber_0 9 rfl) rfl (lv_at hl 0 rfl) ?_
    refine lv_aload_n hx hb (fk_get fk_cX9_readNumber_0 10 rfl) rfl (lv_at hl 0 rfl) ?_
    refine va_get (D := G.1) (ci := 11) (v := .int (fF S 57 2)) (C := RX9) (T := TX9) (N := 9) hx hb hT inX9 hown hK hP 57 (ix_at (lt71 (by omega)) (cX_text G ad S)) rfl 2 (by decide) (hT _ m2_5) (fun _ h9 => h9) rfl (fk_get fk_cX9_readNumber_0 11 rfl) ?_
    rw [show (fF S 57 2) = (nI pz) from hp]
    refine vp_callSi (W.runV (As := [.int ((nI pz))]) (rest := [.ref (ad 57)]) ⟨hx, hb, hml, hown, hT⟩ (c_x9_sig l G ad S s.heap.size (z) (pz) (τ) (by first | assumption | exact hTx) (by first | assumption | omega) (hX)) (tV 1 hT m2_217 m2_219 mp_1 m1_12 m2_220 rfl rfl (by decide +kernel) ⟨Nat.le_of_ble_eq_true rfl, Nat.le_of_ble_eq_true rfl⟩) ⟨PcW_blind, va_recv hK hP (ci := 11) (q0 := 57) rfl (ix_at (lt71 (by omega)) (cX_text G ad S)), PcW_of hP hK hD _⟩ rfl rfl hl.1 rfl (lv_room (Nat.le_of_ble_eq_true rfl)) (fk_get fk_cX9_readNumber_0 12 rfl) ⟨Nat.zero_le _, Nat.zero_le _⟩) (fun r_6 hw_7 => ?_)
    try dsimp only at hw_7
    subst hw_7
    refine lv_bipush (v := 48) hx hb (fk_get fk_cX9_readNumber_0 13 rfl) (by decide) ?_
    refine lv_isub hx hb (fk_get fk_cX9_readNumber_0 14 rfl) ?_
    refine va_put (D := G.1) (ci := 11) (v := .int (((τ pz) - 48))) (ty := .int) (C := RX9) (T := TX9) (N := 9) hx hb hT inX9 tyX9 tyX9_ok nmX9 hown hK hP hD hS 57 (ix_at (lt71 (by omega)) (cX_text G ad S)) rfl 8 (by decide) (hT _ m2_17) (fun _ h9 => h9) rfl (by decide +kernel) rfl rfl (Nat.le_of_ble_eq_true rfl) (fk_get fk_cX9_readNumber_0 15 rfl) (fun H locs hP hD hS => ?_)
    rw [pX_text_8 (S := S) (((τ pz) - 48))] at hP hD
    have hX_8 : XI (setF S 57 8 (((τ pz) - 48))) := XI.sF hX _ ⟨by omega, by omega, by omega, by omega, by omega, by omega, by omega, by omega⟩
    have hF_9 : Fr (fun j k => j = 57 ∧ (k = 2 ∨ k = 8)) S (setF S 57 8 (((τ pz) - 48))) := Fr.sF (Fr.rf : Fr (fun j k => j = 57 ∧ (k = 2 ∨ k = 8)) S S) (by omega)
    refine lv_aload_n hx hb (fk_get fk_cX9_readNumber_0 16 rfl) rfl (lv_at hl 0 rfl) ?_
    refine lv_dup hx hb (fk_get fk_cX9_readNumber_0 17 rfl) rfl ?_
    refine va_get (D := G.1) (ci := 11) (v := .int (fF (setF S 57 8 (((τ pz) - 48))) 57 2)) (C := RX9) (T := TX9) (N := 9) hx hb hT inX9 hown hK hP 57 (ix_at (lt71 (by omega)) (cX_text G ad (setF S 57 8 (((τ pz) - 48))))) rfl 2 (by decide) (hT _ m2_5) (fun _ h9 => h9) rfl (fk_get fk_cX9_readNumber_0 18 rfl) ?_
    rw [show fF (setF S 57 8 (((τ pz) - 48))) 57 2 = (fF S 57 2) from by simp [fF_setF, fF_setR, fF_setA, fF_setL]]
    rw [show (fF S 57 2) = (nI pz) from hp]
    refine lv_iconst (v := 1) hx hb (fk_get fk_cX9_readNumber_0 19 rfl) (by decide) ?_
    refine lv_iadd hx hb (fk_get fk_cX9_readNumber_0 20 rfl) ?_
    rw [show ((nI pz) + 1) = (nI (pz + 1)) from (nI_1 pz)]
    refine va_put (D := G.1) (ci := 11) (v := .int ((nI (pz + 1)))) (ty := .int) (C := RX9) (T := TX9) (N := 9) hx hb hT inX9 tyX9 tyX9_ok nmX9 hown hK hP hD hS 57 (ix_at (lt71 (by omega)) (cX_text G ad (setF S 57 8 (((τ pz) - 48))))) rfl 2 (by decide) (hT _ m2_5) (fun _ h9 => h9) rfl (by decide +kernel) rfl rfl (Nat.le_of_ble_eq_true rfl) (fk_get fk_cX9_readNumber_0 21 rfl) (fun H locs hP hD hS => ?_)
    rw [pX_text_2 (S := (setF S 57 8 (((τ pz) - 48)))) ((nI (pz + 1)))] at hP hD
    have hX_10 : XI (setF (setF S 57 8 (((τ pz) - 48))) 57 2 ((nI (pz + 1)))) := XI.sF hX_8 _ ⟨by omega, by omega, by omega, by omega, by omega, by omega, by omega, by omega⟩
    have hF_11 : Fr (fun j k => j = 57 ∧ (k = 2 ∨ k = 8)) S (setF (setF S 57 8 (((τ pz) - 48))) 57 2 ((nI (pz + 1)))) := Fr.sF hF_9 (by omega)
    refine lv_aload_n hx hb (fk_get fk_cX9_readNumber_0 22 rfl) rfl (lv_at hl 0 rfl) ?_
    refine lv_aload_n hx hb (fk_get fk_cX9_readNumber_0 23 rfl) rfl (lv_at hl 0 rfl) ?_
    refine va_get (D := G.1) (ci := 11) (v := .int (fF (setF (setF S 57 8 (((τ pz) - 48))) 57 2 ((nI (pz + 1)))) 57 2)) (C := RX9) (T := TX9) (N := 9) hx hb hT inX9 hown hK hP 57 (ix_at (lt71 (by omega)) (cX_text G ad (setF (setF S 57 8 (((τ pz) - 48))) 57 2 ((nI (pz + 1)))))) rfl 2 (by decide) (hT _ m2_5) (fun _ h9 => h9) rfl (fk_get fk_cX9_readNumber_0 24 rfl) ?_
    rw [show fF (setF (setF S 57 8 (((τ pz) - 48))) 57 2 ((nI (pz + 1)))) 57 2 = (nI (pz + 1)) from by simp [fF_setF, fF_setR, fF_setA, fF_setL]]
    refine vp_callSi (W.runV (As := [.int ((nI (pz + 1)))]) (rest := []) ⟨hx, hb, hml, hown, hT⟩ (c_x9_sig l G ad (setF (setF S 57 8 (((τ pz) - 48))) 57 2 ((nI (pz + 1)))) H.size (z) (pz + 1) (τ) (by first | assumption | exact hTx) (by first | assumption | omega) (hX_10)) (tV 1 hT m2_217 m2_219 mp_1 m1_12 m2_220 rfl rfl (by decide +kernel) ⟨Nat.le_of_ble_eq_true rfl, Nat.le_of_ble_eq_true rfl⟩) ⟨PcW_blind, va_recv hK hP (ci := 11) (q0 := 57) rfl (ix_at (lt71 (by omega)) (cX_text G ad (setF (setF S 57 8 (((τ pz) - 48))) 57 2 ((nI (pz + 1)))))), PcW_of hP hK hD _⟩ rfl rfl hl.1 rfl (lv_room (Nat.le_of_ble_eq_true rfl)) (fk_get fk_cX9_readNumber_0 25 rfl) ⟨Nat.zero_le _, Nat.zero_le _⟩) (fun r_12 hw_13 => ?_)
    try dsimp only at hw_13
    have hw_13 : r_12 = τ (pz + 1) := hw_13
    subst hw_13
    refine vp_callSi (W.runS (As := [.int ((τ (pz + 1)))]) (rest := []) ⟨hx, hb, hml, hown, hT⟩ (c_xisDigit l ((τ (pz + 1))) ) (tS 1 hT m3_53 m3_54 m1_12 m3_55 rfl rfl (by decide +kernel) ⟨Nat.le_of_ble_eq_true rfl, Nat.le_of_ble_eq_true rfl⟩) ⟨PcN_blind, PcN_of _ _ _⟩ rfl rfl hl.1 rfl (lv_room (Nat.le_of_ble_eq_true rfl)) (fk_get fk_cX9_readNumber_0 26 rfl) ⟨Nat.zero_le _, Nat.zero_le _⟩) (fun r_14 hw_15 => ?_)
    try dsimp only at hw_15
    refine lv_if_eq (tgt := 88) hx hb (fk_get fk_cX9_readNumber_0 27 rfl) (by decide) (fun c_16 => ?_) (fun c_16 => ?_)
    · have p_c_16 := if1_f hw_15 c_16
      have hd1 : ¬ dgt (τ (pz + 1)) := p_c_16
      refine lv_iconst (v := 1) hx hb (fk_get fk_cX9_readNumber_1 15 rfl) (by decide) ?_
      subst hQ
      have hpost : XI (setF (setF S 57 8 (((τ pz) - 48))) 57 2 ((nI (pz + 1)))) ∧ Fr (fun j k => j = 57 ∧ (k = 2 ∨ k = 8)) S (setF (setF S 57 8 (((τ pz) - 48))) 57 2 ((nI (pz + 1)))) ∧ NuP τ pz (1 : Int32) (setF (setF S 57 8 (((τ pz) - 48))) 57 2 ((nI (pz + 1)))) := by
        exact ⟨hX_10, hF_11, by first | exact ⟨by rw [num_0 hd0]; exact hp, Or.inl ⟨by rw [num_0 hd0], rfl⟩⟩ | exact ⟨by rw [num_1 hd0 hd1]; rfl, Or.inr ⟨τ pz - 48, by rw [num_1 hd0 hd1], rfl, rfl⟩⟩ | exact ⟨by rw [num_2 hd0 hd1]; rfl, Or.inr ⟨10 * (τ pz - 48) + (τ (pz + 1) - 48), by rw [num_2 hd0 hd1], rfl, rfl⟩⟩⟩
      exact W.zret (v := 1) hx hb hr rfl (fun t_ ht_ hW_ => ⟨⟨1, (setF (setF S 57 8 (((τ pz) - 48))) 57 2 ((nI (pz + 1)))), rfl, hpost, by rw [ht_]; exact hP, va_K.moved hW_.alike hK, hD⟩, hS.F ht_⟩) hS.2.2 (fk_get fk_cX9_readNumber_1 16 rfl)
    have p_c_16 := if1_t hw_15 c_16
    have hd1 : dgt (τ (pz + 1)) := p_c_16
    refine lv_aload_n hx hb (fk_get fk_cX9_readNumber_0 28 rfl) rfl (lv_at hl 0 rfl) ?_
    refine lv_aload_n hx hb (fk_get fk_cX9_readNumber_0 29 rfl) rfl (lv_at hl 0 rfl) ?_
    refine va_get (D := G.1) (ci := 11) (v := .int (fF (setF (setF S 57 8 (((τ pz) - 48))) 57 2 ((nI (pz + 1)))) 57 8)) (C := RX9) (T := TX9) (N := 9) hx hb hT inX9 hown hK hP 57 (ix_at (lt71 (by omega)) (cX_text G ad (setF (setF S 57 8 (((τ pz) - 48))) 57 2 ((nI (pz + 1)))))) rfl 8 (by decide) (hT _ m2_17) (fun _ h9 => h9) rfl (fk_get fk_cX9_readNumber_0 30 rfl) ?_
    rw [show fF (setF (setF S 57 8 (((τ pz) - 48))) 57 2 ((nI (pz + 1)))) 57 8 = ((τ pz) - 48) from by simp [fF_setF, fF_setR, fF_setA, fF_setL]]
    refine lv_bipush (v := 10) hx hb (fk_get fk_cX9_readNumber_0 31 rfl) (by decide) ?_
    refine lv_imul hx hb (fk_get fk_cX9_readNumber_1 0 rfl) ?_
    refine lv_aload_n hx hb (fk_get fk_cX9_readNumber_1 1 rfl) rfl (lv_at hl 0 rfl) ?_
    refine lv_aload_n hx hb (fk_get fk_cX9_readNumber_1 2 rfl) rfl (lv_at hl 0 rfl) ?_
    refine va_get (D := G.1) (ci := 11) (v := .int (fF (setF (setF S 57 8 (((τ pz) - 48))) 57 2 ((nI (pz + 1)))) 57 2)) (C := RX9) (T := TX9) (N := 9) hx hb hT inX9 hown hK hP 57 (ix_at (lt71 (by omega)) (cX_text G ad (setF (setF S 57 8 (((τ pz) - 48))) 57 2 ((nI (pz + 1)))))) rfl 2 (by decide) (hT _ m2_5) (fun _ h9 => h9) rfl (fk_get fk_cX9_readNumber_1 3 rfl) ?_
    rw [show fF (setF (setF S 57 8 (((τ pz) - 48))) 57 2 ((nI (pz + 1)))) 57 2 = (nI (pz + 1)) from by simp [fF_setF, fF_setR, fF_setA, fF_setL]]
    refine vp_callSi (W.runV (As := [.int ((nI (pz + 1)))]) (rest := [.int ((((τ pz) - 48) * 10)), .ref (ad 57)]) ⟨hx, hb, hml, hown, hT⟩ (c_x9_sig l G ad (setF (setF S 57 8 (((τ pz) - 48))) 57 2 ((nI (pz + 1)))) H.size (z) (pz + 1) (τ) (by first | assumption | exact hTx) (by first | assumption | omega) (hX_10)) (tV 1 hT m2_217 m2_219 mp_1 m1_12 m2_220 rfl rfl (by decide +kernel) ⟨Nat.le_of_ble_eq_true rfl, Nat.le_of_ble_eq_true rfl⟩) ⟨PcW_blind, va_recv hK hP (ci := 11) (q0 := 57) rfl (ix_at (lt71 (by omega)) (cX_text G ad (setF (setF S 57 8 (((τ pz) - 48))) 57 2 ((nI (pz + 1)))))), PcW_of hP hK hD _⟩ rfl rfl hl.1 rfl (lv_room (Nat.le_of_ble_eq_true rfl)) (fk_get fk_cX9_readNumber_1 4 rfl) ⟨Nat.zero_le _, Nat.zero_le _⟩) (fun r_17 hw_18 => ?_)
    try dsimp only at hw_18
    have hw_18 : r_17 = τ (pz + 1) := hw_18
    subst hw_18
    refine lv_iadd hx hb (fk_get fk_cX9_readNumber_1 5 rfl) ?_
    refine lv_bipush (v := 48) hx hb (fk_get fk_cX9_readNumber_1 6 rfl) (by decide) ?_
    refine lv_isub hx hb (fk_get fk_cX9_readNumber_1 7 rfl) ?_
    rw [show (((((τ pz) - 48) * 10) + (τ (pz + 1))) - 48) = (10 * (τ pz - 48) + (τ (pz + 1) - 48)) from (i32_num _ _)]
    refine va_put (D := G.1) (ci := 11) (v := .int ((10 * (τ pz - 48) + (τ (pz + 1) - 48)))) (ty := .int) (C := RX9) (T := TX9) (N := 9) hx hb hT inX9 tyX9 tyX9_ok nmX9 hown hK hP hD hS 57 (ix_at (lt71 (by omega)) (cX_text G ad (setF (setF S 57 8 (((τ pz) - 48))) 57 2 ((nI (pz + 1)))))) rfl 8 (by decide) (hT _ m2_17) (fun _ h9 => h9) rfl (by decide +kernel) rfl rfl (Nat.le_of_ble_eq_true rfl) (fk_get fk_cX9_readNumber_1 8 rfl) (fun H locs hP hD hS => ?_)
    rw [pX_text_8 (S := (setF (setF S 57 8 (((τ pz) - 48))) 57 2 ((nI (pz + 1))))) ((10 * (τ pz - 48) + (τ (pz + 1) - 48)))] at hP hD
    have hX_19 : XI (setF (setF (setF S 57 8 (((τ pz) - 48))) 57 2 ((nI (pz + 1)))) 57 8 ((10 * (τ pz - 48) + (τ (pz + 1) - 48)))) := XI.sF hX_10 _ ⟨by omega, by omega, by omega, by omega, by omega, by omega, by omega, by omega⟩
    have hF_20 : Fr (fun j k => j = 57 ∧ (k = 2 ∨ k = 8)) S (setF (setF (setF S 57 8 (((τ pz) - 48))) 57 2 ((nI (pz + 1)))) 57 8 ((10 * (τ pz - 48) + (τ (pz + 1) - 48)))) := Fr.sF hF_11 (by omega)
    refine lv_aload_n hx hb (fk_get fk_cX9_readNumber_1 9 rfl) rfl (lv_at hl 0 rfl) ?_
    refine lv_dup hx hb (fk_get fk_cX9_readNumber_1 10 rfl) rfl ?_
    refine va_get (D := G.1) (ci := 11) (v := .int (fF (setF (setF (setF S 57 8 (((τ pz) - 48))) 57 2 ((nI (pz + 1)))) 57 8 ((10 * (τ pz - 48) + (τ (pz + 1) - 48)))) 57 2)) (C := RX9) (T := TX9) (N := 9) hx hb hT inX9 hown hK hP 57 (ix_at (lt71 (by omega)) (cX_text G ad (setF (setF (setF S 57 8 (((τ pz) - 48))) 57 2 ((nI (pz + 1)))) 57 8 ((10 * (τ pz - 48) + (τ (pz + 1) - 48)))))) rfl 2 (by decide) (hT _ m2_5) (fun _ h9 => h9) rfl (fk_get fk_cX9_readNumber_1 11 rfl) ?_
    rw [show fF (setF (setF (setF S 57 8 (((τ pz) - 48))) 57 2 ((nI (pz + 1)))) 57 8 ((10 * (τ pz - 48) + (τ (pz + 1) - 48)))) 57 2 = (nI (pz + 1)) from by simp [fF_setF, fF_setR, fF_setA, fF_setL]]
    refine lv_iconst (v := 1) hx hb (fk_get fk_cX9_readNumber_1 12 rfl) (by decide) ?_
    refine lv_iadd hx hb (fk_get fk_cX9_readNumber_1 13 rfl) ?_
    rw [show ((nI (pz + 1)) + 1) = (nI (pz + 2)) from (nI_1 (pz + 1))]
    refine va_put (D := G.1) (ci := 11) (v := .int ((nI (pz + 2)))) (ty := .int) (C := RX9) (T := TX9) (N := 9) hx hb hT inX9 tyX9 tyX9_ok nmX9 hown hK hP hD hS 57 (ix_at (lt71 (by omega)) (cX_text G ad (setF (setF (setF S 57 8 (((τ pz) - 48))) 57 2 ((nI (pz + 1)))) 57 8 ((10 * (τ pz - 48) + (τ (pz + 1) - 48)))))) rfl 2 (by decide) (hT _ m2_5) (fun _ h9 => h9) rfl (by decide +kernel) rfl rfl (Nat.le_of_ble_eq_true rfl) (fk_get fk_cX9_readNumber_1 14 rfl) (fun H locs hP hD hS => ?_)
    rw [pX_text_2 (S := (setF (setF (setF S 57 8 (((τ pz) - 48))) 57 2 ((nI (pz + 1)))) 57 8 ((10 * (τ pz - 48) + (τ (pz + 1) - 48))))) ((nI (pz + 2)))] at hP hD
    have hX_21 : XI (setF (setF (setF (setF S 57 8 (((τ pz) - 48))) 57 2 ((nI (pz + 1)))) 57 8 ((10 * (τ pz - 48) + (τ (pz + 1) - 48)))) 57 2 ((nI (pz + 2)))) := XI.sF hX_19 _ ⟨by omega, by omega, by omega, by omega, by omega, by omega, by omega, by omega⟩
    have hF_22 : Fr (fun j k => j = 57 ∧ (k = 2 ∨ k = 8)) S (setF (setF (setF (setF S 57 8 (((τ pz) - 48))) 57 2 ((nI (pz + 1)))) 57 8 ((10 * (τ pz - 48) + (τ (pz + 1) - 48)))) 57 2 ((nI (pz + 2)))) := Fr.sF hF_20 (by omega)
    refine lv_iconst (v := 1) hx hb (fk_get fk_cX9_readNumber_1 15 rfl) (by decide) ?_
    subst hQ
    have hpost : XI (setF (setF (setF (setF S 57 8 (((τ pz) - 48))) 57 2 ((nI (pz + 1)))) 57 8 ((10 * (τ pz - 48) + (τ (pz + 1) - 48)))) 57 2 ((nI (pz + 2)))) ∧ Fr (fun j k => j = 57 ∧ (k = 2 ∨ k = 8)) S (setF (setF (setF (setF S 57 8 (((τ pz) - 48))) 57 2 ((nI (pz + 1)))) 57 8 ((10 * (τ pz - 48) + (τ (pz + 1) - 48)))) 57 2 ((nI (pz + 2)))) ∧ NuP τ pz (1 : Int32) (setF (setF (setF (setF S 57 8 (((τ pz) - 48))) 57 2 ((nI (pz + 1)))) 57 8 ((10 * (τ pz - 48) + (τ (pz + 1) - 48)))) 57 2 ((nI (pz + 2)))) := by
      exact ⟨hX_21, hF_22, by first | exact ⟨by rw [num_0 hd0]; exact hp, Or.inl ⟨by rw [num_0 hd0], rfl⟩⟩ | exact ⟨by rw [num_1 hd0 hd1]; rfl, Or.inr ⟨τ pz - 48, by rw [num_1 hd0 hd1], rfl, rfl⟩⟩ | exact ⟨by rw [num_2 hd0 hd1]; rfl, Or.inr ⟨10 * (τ pz - 48) + (τ (pz + 1) - 48), by rw [num_2 hd0 hd1], rfl, rfl⟩⟩⟩
    exact W.zret (v := 1) hx hb hr rfl (fun t_ ht_ hW_ => ⟨⟨1, (setF (setF (setF (setF S 57 8 (((τ pz) - 48))) 57 2 ((nI (pz + 1)))) 57 8 ((10 * (τ pz - 48) + (τ (pz + 1) - 48)))) 57 2 ((nI (pz + 2)))), rfl, hpost, by rw [ht_]; exact hP, va_K.moved hW_.alike hK, hD⟩, hS.F ht_⟩) hS.2.2 (fk_get fk_cX9_readNumber_1 16 rfl)
  have p_c_5 := if1_f hw_4 c_5
  have hd0 : ¬ dgt (τ pz) := p_c_5
  refine lv_iconst (v := 0) hx hb (fk_get fk_cX9_readNumber_0 6 rfl) (by decide) ?_
  subst hQ
  have hpost : XI S ∧ Fr (fun j k => j = 57 ∧ (k = 2 ∨ k = 8)) S S ∧ NuP τ pz (0 : Int32) S := by
    exact ⟨hX, (Fr.rf : Fr (fun j k => j = 57 ∧ (k = 2 ∨ k = 8)) S S), by first | exact ⟨by rw [num_0 hd0]; exact hp, Or.inl ⟨by rw [num_0 hd0], rfl⟩⟩ | exact ⟨by rw [num_1 hd0 hd1]; rfl, Or.inr ⟨τ pz - 48, by rw [num_1 hd0 hd1], rfl, rfl⟩⟩ | exact ⟨by rw [num_2 hd0 hd1]; rfl, Or.inr ⟨10 * (τ pz - 48) + (τ (pz + 1) - 48), by rw [num_2 hd0 hd1], rfl, rfl⟩⟩⟩
  exact W.zret (v := 0) hx hb hr rfl (fun t_ ht_ hW_ => ⟨⟨0, S, rfl, hpost, by rw [ht_]; exact hP, va_K.moved hW_.alike hK, hD⟩, hS.F ht_⟩) hS.2.2 (fk_get fk_cX9_readNumber_0 7 rfl)
theorem len_pos {k : Nat} (h : k < 6) : (0 : Int32) < nI (lenS.getD k 0) := by
  rcases (show k = 0 ∨ k = 1 ∨ k = 2 ∨ k = 3 ∨ k = 4 ∨ k = 5 by omega) with rfl | rfl | rfl | rfl | rfl | rfl <;> decide
theorem tau_b {S : FS} {z p : Nat} {τ : Nat → Int32} (h : TXz S z τ) (n : ¬ τ p = -1) : ∃ b, b < 128 ∧ τ p = nI b := by
  rw [← h.2.2.2] at n ⊢
  unfold hrS at n ⊢
  by_cases q : p < z
  · rw [if_pos q]
    exact h.2.2.1 p q
  · rw [if_neg q] at n
    exact absurd rfl n
theorem sc_n {b : Nat} (h : b < 128) : (((nI b).toUInt32 % 65536).toInt32 : Int32) = nI b := by
  have := (by decide : ∀ b : Fin 128, (((nI b.1).toUInt32 % 65536).toInt32 : Int32) = nI b.1)
  exact this ⟨b, h⟩
theorem byt_255 {k j : Nat} (h : k < 6) (hj : j < 6) : ((bytS.getD k []).getD j 0 &&& 255 : Int32) = (bytS.getD k []).getD j 0 := by
  rcases (show k = 0 ∨ k = 1 ∨ k = 2 ∨ k = 3 ∨ k = 4 ∨ k = 5 by omega) with rfl | rfl | rfl | rfl | rfl | rfl <;> rcases (show j = 0 ∨ j = 1 ∨ j = 2 ∨ j = 3 ∨ j = 4 ∨ j = 5 by omega) with rfl | rfl | rfl | rfl | rfl | rfl <;> decide
theorem byt_c {k j : Nat} (h : k < 6) (hj : j < 6) : ((((bytS.getD k []).getD j 0).toUInt32 % 65536).toInt32 : Int32) = (bytS.getD k []).getD j 0 := by
  rcases (show k = 0 ∨ k = 1 ∨ k = 2 ∨ k = 3 ∨ k = 4 ∨ k = 5 by omega) with rfl | rfl | rfl | rfl | rfl | rfl <;> rcases (show j = 0 ∨ j = 1 ∨ j = 2 ∨ j = 3 ∨ j = 4 ∨ j = 5 by omega) with rfl | rfl | rfl | rfl | rfl | rfl <;> decide
def IxT (sk : Nat) (c r : Int32) : Prop := (sk = 4 → r = lix c) ∧ (sk = 5 → r = cix c)
theorem ixt_m (sk : Nat) : IxT sk (-1) (-1) := ⟨fun _ => by decide, fun _ => by decide⟩
theorem ixt_of {sk : Nat} {c r : Int32} (h : IxP (bytS.getD sk []) c r) : IxT sk c r := by
  constructor
  · intro e
    subst e
    rcases h with ⟨i, hi, e, -, er⟩ | ⟨h, er⟩
    · have hi : i < 6 := hi
      rw [← e, er]
      rcases (show i = 0 ∨ i = 1 ∨ i = 2 ∨ i = 3 ∨ i = 4 ∨ i = 5 by omega) with rfl | rfl | rfl | rfl | rfl | rfl <;> decide
    · unfold lix
      rw [if_neg (fun q => h 0 (by decide) q.symm), if_neg (fun q => h 1 (by decide) q.symm), if_neg (fun q => h 2 (by decide) q.symm), if_neg (fun q => h 3 (by decide) q.symm), if_neg (fun q => h 4 (by decide) q.symm), if_neg (fun q => h 5 (by decide) q.symm)]
      exact er
  · intro e
    subst e
    rcases h with ⟨i, hi, e, -, er⟩ | ⟨h, er⟩
    · have hi : i < 3 := hi
      rw [← e, er]
      rcases (show i = 0 ∨ i = 1 ∨ i = 2 by omega) with rfl | rfl | rfl <;> decide
    · unfold cix
      rw [if_neg (fun q => h 0 (by decide) q.symm), if_neg (fun q => h 1 (by decide) q.symm), if_neg (fun q => h 2 (by decide) q.symm)]
      exact er
theorem nm_k {w k : Nat} (h : w < 4) (hk : k < 4) (e : nI w = nI k) : w = k := (nI_eq (by omega) (by omega)).mp e
theorem nm_3 {w : Nat} (h : w < 4) (h0 : ¬ nI w = 0) (h1 : ¬ nI w = 1) (h2 : ¬ nI w = 2) : w = 3 := by
  rcases (show w = 0 ∨ w = 1 ∨ w = 2 ∨ w = 3 by omega) with rfl | rfl | rfl | rfl
  · exact absurd rfl h0
  · exact absurd rfl h1
  · exact absurd rfl h2
  · rfl
set_option maxHeartbeats 800000 in
set_option maxRecDepth 100000 in
theorem c_jixcE (l : Launch) (G : GG) (ad : Nat → Nat) (S : FS) (sz : Nat) (sk bz : Nat) (hsk : sk < 6) (hbz : bz < 128) (hX : XI S) : Met l yJ1_indexOfChar_4cfef (Cond.code yJ1_indexOfChar_4cfef cJ1_indexOfChar_4cfef 6 (some .int) :: TBL) ({ frames := 2, cells := 0, slots := 0, locals := 64 } : Room) (PcE G (wX G ad S) sz [.ref (G.2.2.2 (320 + sk)), .int ((nI bz)), .int (0), .int ((nI (lenS.getD sk 0)))]) (vp_Si (fun (r : Int32) => IxP (bytS.getD sk []) (nI bz) r)) 0 0 (fun _ => False) := by
  refine va_MetF (cc := cJ1_indexOfChar_4cfef) (maxL := 6) (ret := (some .int)) (by decide +kernel) rfl ?_
  intro p e s m args below meth c₀ s₁ B hml hv
  obtain ⟨rfl, hsz, hP, hK, hD0, hE⟩ := hv
  have hx := B.exec
  have hb := B.bytes
  have hr := B.returns
  have hT : ∀ w ∈ TBL, w.before ([.ref (G.2.2.2 (320 + sk)), .int ((nI bz)), .int (0), .int ((nI (lenS.getD sk 0)))] : List Value).toArray s = true := fun w h => atoms_spec (ws := Cond.code yJ1_indexOfChar_4cfef cJ1_indexOfChar_4cfef 6 (some .int) :: TBL) B.pre w (List.mem_cons_of_mem _ h)
  have hown : s.vm.findClass "java/lang/StringLatin1" = some m.cls := findClass_of_methodNamed B.named
  have hlocks := B.notSynchronized
  have hD := hD0
  subst hsz
  have hFc : ∀ q, va_A (wX G ad S) s.heap.size q → va_A (wX G ad S) s.heap.size q := fun _ h => h
  have hS : va_S (va_A (wX G ad S) s.heap.size) s.heap s.heap [] := va_S.rf
  have hP : va_P G.1 vwCl (wX G ad S) s.heap := hP
  have hl := lv_entry ([.ref (G.2.2.2 (320 + sk)), .int ((nI bz)), .int (0), .int ((nI (lenS.getD sk 0)))]) (n := 6) (Nat.le_of_ble_eq_true rfl)
  rw [lg_entry_eq]
  generalize (lg_sl ([.ref (G.2.2.2 (320 + sk)), .int ((nI bz)), .int (0), .int ((nI (lenS.getD sk 0)))]) ++ List.replicate (6 - (lg_sl ([.ref (G.2.2.2 (320 + sk)), .int ((nI bz)), .int (0), .int ((nI (lenS.getD sk 0)))])).length) Slot.unset).toArray = ls at hl ⊢
  have hl : lv_has ls 6 [(0, .ref (G.2.2.2 (320 + sk))), (1, .int ((nI bz))), (2, .int (0)), (3, .int ((nI (lenS.getD sk 0))))] := hl
  refine W_abs (fun Q hQ => ?_)
  generalize ([.ref (G.2.2.2 (320 + sk)), .int ((nI bz)), .int (0), .int ((nI (lenS.getD sk 0)))] : List Value).toArray = args at hT hQ ⊢
  have hs6 := lenS_6 hsk
  refine lv_iload_n hx hb (fk_get fk_cJ1_indexOfChar_4cfef_0 0 rfl) rfl (lv_at hl 1 rfl) ?_
  refine lv_i2b hx hb (fk_get fk_cJ1_indexOfChar_4cfef_0 1 rfl) rfl ?_
  rw [show ((nI bz)).toInt8.toInt32 = (nI bz) from (sg_b hbz)]
  refine lv_istore (lv' := [(4, .int ((nI bz))), (0, .ref (G.2.2.2 (320 + sk))), (1, .int ((nI bz))), (2, .int (0)), (3, .int ((nI (lenS.getD sk 0))))]) hx hb (fk_get fk_cJ1_indexOfChar_4cfef_0 2 rfl) hl (by decide) rfl (fun ls hl => ?_)
  refine lv_iload_n hx hb (fk_get fk_cJ1_indexOfChar_4cfef_0 3 rfl) rfl (lv_at hl 3 rfl) ?_
  refine lv_istore (lv' := [(5, .int (0)), (4, .int ((nI bz))), (0, .ref (G.2.2.2 (320 + sk))), (1, .int ((nI bz))), (2, .int (0)), (3, .int ((nI (lenS.getD sk 0))))]) hx hb (fk_get fk_cJ1_indexOfChar_4cfef_0 4 rfl) hl (by decide) rfl (fun ls hl => ?_)
  have lp_1 : ∀ (fu : Nat) (c : Nat) (ls : Array Slot),  (c ≤ lenS.getD sk 0) → (lenS.getD sk 0 < c + fu) → (∀ i, i < c → ¬ (bytS.getD sk []).getD i 0 = nI bz) → lv_has ls 6 [(5, .int ((nI c))), (4, .int ((nI bz))), (0, .ref (G.2.2.2 (320 + sk))), (1, .int ((nI bz))), (2, .int (0)), (3, .int ((nI (lenS.getD sk 0))))] → W p l e ({ frames := 2, cells := 0, slots := 0, locals := 64 } : Room) s m args below meth c₀ s.heap [] 0 0 Q (F0 m 7 ls []) := by
    intro fu
    induction fu with
    | zero =>
      intro c ls hk hf hN hl
      exact absurd hf (by omega)
    | succ fu ih =>
      intro c ls hk hf hN hl
      refine lv_iload hx hb (fk_get fk_cJ1_indexOfChar_4cfef_0 5 rfl) (lv_at hl 0 rfl) ?_
      refine lv_iload_n hx hb (fk_get fk_cJ1_indexOfChar_4cfef_0 6 rfl) rfl (lv_at hl 5 rfl) ?_
      refine lv_icmp_ge (tgt := 31) hx hb (fk_get fk_cJ1_indexOfChar_4cfef_0 7 rfl) (by decide) (fun c_2 => ?_) (fun c_2 => ?_)
      · have q_c_2 : (lenS.getD sk 0) ≤ c := ci_le (a := ((lenS.getD sk 0))) (b := c) (by omega) (by omega) c_2
        refine lv_iconst (v := (-1)) hx hb (fk_get fk_cJ1_indexOfChar_4cfef_0 17 rfl) (by decide) ?_
        subst hQ
        have hpost : IxP (bytS.getD sk []) (nI bz) ((-1) : Int32) := by
          first | exact Or.inl ⟨c, by rw [byt_len hsk]; omega, by assumption, hN, rfl⟩ | exact Or.inr ⟨fun i hi => hN i (by rw [byt_len hsk] at hi; omega), rfl⟩
        exact W.iret (v := (-1)) hx hb hr (fun t_ ht_ hW_ => ⟨(-1), rfl, hpost, ht_⟩) (fun q h => by cases h) (fk_get fk_cJ1_indexOfChar_4cfef_0 18 rfl)
      have q_c_2 : c < (lenS.getD sk 0) := ci_nle (a := ((lenS.getD sk 0))) (b := c) (by omega) (by omega) c_2
      refine lv_aload_n hx hb (fk_get fk_cJ1_indexOfChar_4cfef_0 8 rfl) rfl (lv_at hl 2 rfl) ?_
      refine lv_iload hx hb (fk_get fk_cJ1_indexOfChar_4cfef_0 9 rfl) (lv_at hl 0 rfl) ?_
      refine va_tb (v := .int ((bytS.getD sk []).getD ((nI c) : Int32).toNatClampNeg 0)) hx hb (hE.2.2.2.2.1.1.1 sk hsk).2.2.2 hS (by rw [show ((nI c) : Int32) = nI c from rfl]; exact vp_in_nI (by omega) (lenS_lt hsk)) rfl (fk_get fk_cJ1_indexOfChar_4cfef_0 10 rfl) ?_
      rw [show ((bytS.getD sk []).getD ((nI c) : Int32).toNatClampNeg 0) = ((bytS.getD sk []).getD c 0) from by rw [show ((nI c) : Int32) = nI c from rfl, nI_clamp (by omega)]]
      refine lv_iload hx hb (fk_get fk_cJ1_indexOfChar_4cfef_0 11 rfl) (lv_at hl 1 rfl) ?_
      refine lv_icmp_ne (tgt := 25) hx hb (fk_get fk_cJ1_indexOfChar_4cfef_0 12 rfl) (by decide) (fun c_3 => ?_) (fun c_3 => ?_)
      · refine lv_iinc (v := (nI (c + 1))) (lv' := [(5, .int ((nI (c + 1)))), (4, .int ((nI bz))), (0, .ref (G.2.2.2 (320 + sk))), (1, .int ((nI bz))), (2, .int (0)), (3, .int ((nI (lenS.getD sk 0))))]) hx hb (fk_get fk_cJ1_indexOfChar_4cfef_0 15 rfl) hl (k := 0) rfl ((nI_1 c)) (by decide) rfl (fun ls hl => ?_)
        refine lv_goto (tgt := 7) hx hb (fk_get fk_cJ1_indexOfChar_4cfef_0 16 rfl) (by decide) ?_
        exact ih (c + 1) ls (by omega) (by omega) (fun i hi => (Nat.lt_succ_iff_lt_or_eq.mp hi).elim (hN i) (fun e => by rw [e]; assumption)) (lv_sub hl [0, 1, 2, 3, 4, 5] rfl)
      refine lv_iload hx hb (fk_get fk_cJ1_indexOfChar_4cfef_0 13 rfl) (lv_at hl 0 rfl) ?_
      subst hQ
      have hpost : IxP (bytS.getD sk []) (nI bz) ((nI c) : Int32) := by
        first | exact Or.inl ⟨c, by rw [byt_len hsk]; omega, by assumption, hN, rfl⟩ | exact Or.inr ⟨fun i hi => hN i (by rw [byt_len hsk] at hi; omega), rfl⟩
      exact W.iret (v := (nI c)) hx hb hr (fun t_ ht_ hW_ => ⟨(nI c), rfl, hpost, ht_⟩) (fun q h => by cases h) (fk_get fk_cJ1_indexOfChar_4cfef_0 14 rfl)
  exact lp_1 (lenS.getD sk 0 + 1) (0) ls (by omega) (by omega) (fun i hi => absurd hi (by omega)) (lv_sub hl [0, 1, 2, 3, 4, 5] rfl)
set_option maxHeartbeats 800000 in
set_option maxRecDepth 100000 in
theorem c_jlixE (l : Launch) (G : GG) (ad : Nat → Nat) (S : FS) (sz : Nat) (sk bz : Nat) (hsk : sk < 6) (hbz : bz < 128) (hX : XI S) : Met l yJ1_indexOf_4cfef (Cond.code yJ1_indexOf_4cfef cJ1_indexOf_4cfef 4 (some .int) :: TBL) ({ frames := 3, cells := 0, slots := 0, locals := 93 } : Room) (PcE G (wX G ad S) sz [.ref (G.2.2.2 (320 + sk)), .int ((nI bz)), .int (0), .int ((nI (lenS.getD sk 0)))]) (vp_Si (fun (r : Int32) => IxP (bytS.getD sk []) (nI bz) r)) 0 0 (fun _ => False) := by
  refine va_MetF (cc := cJ1_indexOf_4cfef) (maxL := 4) (ret := (some .int)) (by decide +kernel) rfl ?_
  intro p e s m args below meth c₀ s₁ B hml hv
  obtain ⟨rfl, hsz, hP, hK, hD0, hE⟩ := hv
  have hx := B.exec
  have hb := B.bytes
  have hr := B.returns
  have hT : ∀ w ∈ TBL, w.before ([.ref (G.2.2.2 (320 + sk)), .int ((nI bz)), .int (0), .int ((nI (lenS.getD sk 0)))] : List Value).toArray s = true := fun w h => atoms_spec (ws := Cond.code yJ1_indexOf_4cfef cJ1_indexOf_4cfef 4 (some .int) :: TBL) B.pre w (List.mem_cons_of_mem _ h)
  have hown : s.vm.findClass "java/lang/StringLatin1" = some m.cls := findClass_of_methodNamed B.named
  have hlocks := B.notSynchronized
  have hD := hD0
  subst hsz
  have hFc : ∀ q, va_A (wX G ad S) s.heap.size q → va_A (wX G ad S) s.heap.size q := fun _ h => h
  have hS : va_S (va_A (wX G ad S) s.heap.size) s.heap s.heap [] := va_S.rf
  have hP : va_P G.1 vwCl (wX G ad S) s.heap := hP
  have hl := lv_entry ([.ref (G.2.2.2 (320 + sk)), .int ((nI bz)), .int (0), .int ((nI (lenS.getD sk 0)))]) (n := 4) (Nat.le_of_ble_eq_true rfl)
  rw [lg_entry_eq]
  generalize (lg_sl ([.ref (G.2.2.2 (320 + sk)), .int ((nI bz)), .int (0), .int ((nI (lenS.getD sk 0)))]) ++ List.replicate (4 - (lg_sl ([.ref (G.2.2.2 (320 + sk)), .int ((nI bz)), .int (0), .int ((nI (lenS.getD sk 0)))])).length) Slot.unset).toArray = ls at hl ⊢
  have hl : lv_has ls 4 [(0, .ref (G.2.2.2 (320 + sk))), (1, .int ((nI bz))), (2, .int (0)), (3, .int ((nI (lenS.getD sk 0))))] := hl
  refine W_abs (fun Q hQ => ?_)
  generalize ([.ref (G.2.2.2 (320 + sk)), .int ((nI bz)), .int (0), .int ((nI (lenS.getD sk 0)))] : List Value).toArray = args at hT hQ ⊢
  have hs6 := lenS_6 hsk
  refine lv_iload_n hx hb (fk_get fk_cJ1_indexOf_4cfef_0 0 rfl) rfl (lv_at hl 1 rfl) ?_
  refine vp_callSi (W.runS (As := [.int ((nI bz))]) (rest := []) ⟨hx, hb, hml, hown, hT⟩ (c_jcanEncode l ((nI bz)) ) (tS 1 hT m3_89 m3_90 m1_20 m3_91 rfl rfl (by decide +kernel) ⟨Nat.le_of_ble_eq_true rfl, Nat.le_of_ble_eq_true rfl⟩) ⟨PcN_blind, PcN_of _ _ _⟩ rfl rfl hl.1 rfl (lv_room (Nat.le_of_ble_eq_true rfl)) (fk_get fk_cJ1_indexOf_4cfef_0 1 rfl) ⟨Nat.zero_le _, Nat.zero_le _⟩) (fun r_1 hw_2 => ?_)
  try dsimp only at hw_2
  rw [if_pos ⟨(nI_leI (a := 0) (b := bz) (by omega) (by omega)).mpr (Nat.zero_le _), (nI_leI (a := bz) (b := 255) (by omega) (by omega)).mpr (by omega)⟩] at hw_2
  subst hw_2
  refine lv_if_ne (tgt := 9) hx hb (fk_get fk_cJ1_indexOf_4cfef_0 2 rfl) (by decide) (fun _ => ?_) (fun c_3 => absurd c_3 ((by decide)))
  refine lv_iload_n hx hb (fk_get fk_cJ1_indexOf_4cfef_0 3 rfl) rfl (lv_at hl 2 rfl) ?_
  refine lv_iconst (v := 0) hx hb (fk_get fk_cJ1_indexOf_4cfef_0 4 rfl) (by decide) ?_
  refine vp_callSi (W.runS (As := [.int (0), .int (0)]) (rest := []) ⟨hx, hb, hml, hown, hT⟩ (c_jmax l (0) (0) ) (tS 2 hT m3_92 m2_139 m1_18 m2_140 rfl rfl (by decide +kernel) ⟨Nat.le_of_ble_eq_true rfl, Nat.le_of_ble_eq_true rfl⟩) ⟨PcN_blind, PcN_of _ _ _⟩ rfl rfl hl.1 rfl (lv_room (Nat.le_of_ble_eq_true rfl)) (fk_get fk_cJ1_indexOf_4cfef_0 5 rfl) ⟨Nat.zero_le _, Nat.zero_le _⟩) (fun r_4 hw_5 => ?_)
  try dsimp only at hw_5
  rw [if_neg Int32.lt_irrefl] at hw_5
  subst hw_5
  refine lv_istore_n (lv' := [(2, .int ((0))), (0, .ref (G.2.2.2 (320 + sk))), (1, .int ((nI bz))), (3, .int ((nI (lenS.getD sk 0))))]) hx hb (fk_get fk_cJ1_indexOf_4cfef_0 6 rfl) rfl hl (by decide) rfl (fun ls hl => ?_)
  refine lv_iload_n hx hb (fk_get fk_cJ1_indexOf_4cfef_0 7 rfl) rfl (lv_at hl 3 rfl) ?_
  refine lv_aload_n hx hb (fk_get fk_cJ1_indexOf_4cfef_0 8 rfl) rfl (lv_at hl 1 rfl) ?_
  refine va_tlen (v := nI (lenS.getD sk 0)) hx hb (hE.2.2.2.2.1.1.1 sk hsk).2.2.2 hS rfl (fk_get fk_cJ1_indexOf_4cfef_0 9 rfl) ?_
  refine vp_callSi (W.runS (As := [.int ((nI (lenS.getD sk 0))), .int ((nI (lenS.getD sk 0)))]) (rest := []) ⟨hx, hb, hml, hown, hT⟩ (c_jmin l ((nI (lenS.getD sk 0))) ((nI (lenS.getD sk 0))) ) (tS 2 hT m3_93 m3_94 m1_18 m3_95 rfl rfl (by decide +kernel) ⟨Nat.le_of_ble_eq_true rfl, Nat.le_of_ble_eq_true rfl⟩) ⟨PcN_blind, PcN_of _ _ _⟩ rfl rfl hl.1 rfl (lv_room (Nat.le_of_ble_eq_true rfl)) (fk_get fk_cJ1_indexOf_4cfef_0 10 rfl) ⟨Nat.zero_le _, Nat.zero_le _⟩) (fun r_6 hw_7 => ?_)
  try dsimp only at hw_7
  rw [if_neg Int32.lt_irrefl] at hw_7
  subst hw_7
  refine lv_istore_n (lv' := [(3, .int ((nI (lenS.getD sk 0)))), (2, .int ((0))), (0, .ref (G.2.2.2 (320 + sk))), (1, .int ((nI bz)))]) hx hb (fk_get fk_cJ1_indexOf_4cfef_0 11 rfl) rfl hl (by decide) rfl (fun ls hl => ?_)
  refine lv_iload_n hx hb (fk_get fk_cJ1_indexOf_4cfef_0 12 rfl) rfl (lv_at hl 1 rfl) ?_
  refine lv_iload_n hx hb (fk_get fk_cJ1_indexOf_4cfef_0 13 rfl) rfl (lv_at hl 0 rfl) ?_
  refine lv_icmp_lt (tgt := 29) hx hb (fk_get fk_cJ1_indexOf_4cfef_0 14 rfl) (by decide) (fun _ => ?_) (fun c_8 => absurd ((len_pos hsk)) c_8)
  refine lv_aload_n hx hb (fk_get fk_cJ1_indexOf_4cfef_0 15 rfl) rfl (lv_at hl 2 rfl) ?_
  refine lv_iload_n hx hb (fk_get fk_cJ1_indexOf_4cfef_0 16 rfl) rfl (lv_at hl 3 rfl) ?_
  refine lv_iload_n hx hb (fk_get fk_cJ1_indexOf_4cfef_0 17 rfl) rfl (lv_at hl 1 rfl) ?_
  refine lv_iload_n hx hb (fk_get fk_cJ1_indexOf_4cfef_0 18 rfl) rfl (lv_at hl 0 rfl) ?_
  refine vp_callSi (W.runS (As := [.ref (G.2.2.2 (320 + sk)), .int ((nI bz)), .int ((0)), .int ((nI (lenS.getD sk 0)))]) (rest := []) ⟨hx, hb, hml, hown, hT⟩ (c_jixcE l G ad S s.heap.size (sk) (bz) (hsk) (by first | assumption | omega) (hX)) (tS 4 hT m3_96 m3_97 m1_20 m3_98 rfl rfl (by decide +kernel) ⟨Nat.le_of_ble_eq_true rfl, Nat.le_of_ble_eq_true rfl⟩) ⟨PcE_blind, PcE_of hP hK hD hE hS (fun q h => hFc q h) _⟩ rfl rfl hl.1 rfl (lv_room (Nat.le_of_ble_eq_true rfl)) (fk_get fk_cJ1_indexOf_4cfef_0 19 rfl) ⟨Nat.zero_le _, Nat.zero_le _⟩) (fun r_9 hw_10 => ?_)
  try dsimp only at hw_10
  subst hQ
  have hpost : IxP (bytS.getD sk []) (nI bz) (r_9 : Int32) := by
    assumption
  exact W.iret (v := r_9) hx hb hr (fun t_ ht_ hW_ => ⟨r_9, rfl, hpost, ht_⟩) (fun q h => by cases h) (fk_get fk_cJ1_indexOf_4cfef_0 20 rfl)
set_option maxHeartbeats 800000 in
set_option maxRecDepth 100000 in
theorem c_jix2E (l : Launch) (G : GG) (ad : Nat → Nat) (S : FS) (sz : Nat) (sk bz : Nat) (hsk : sk < 6) (hbz : bz < 128) (hX : XI S) : Met l yJ0_indexOf_7cf53 (Cond.code yJ0_indexOf_7cf53 cJ0_indexOf_7cf53 3 (some .int) :: TBL) ({ frames := 4, cells := 0, slots := 0, locals := 120 } : Room) (PcE G (wX G ad S) sz [.ref (G.2.2.2 (310 + sk)), .int ((nI bz)), .int (0)]) (vp_Si (fun (r : Int32) => IxP (bytS.getD sk []) (nI bz) r)) 0 0 (fun _ => False) := by
  refine va_MetF (cc := cJ0_indexOf_7cf53) (maxL := 3) (ret := (some .int)) (by decide +kernel) rfl ?_
  intro p e s m args below meth c₀ s₁ B hml hv
  obtain ⟨rfl, hsz, hP, hK, hD0, hE⟩ := hv
  have hx := B.exec
  have hb := B.bytes
  have hr := B.returns
  have hT : ∀ w ∈ TBL, w.before ([.ref (G.2.2.2 (310 + sk)), .int ((nI bz)), .int (0)] : List Value).toArray s = true := fun w h => atoms_spec (ws := Cond.code yJ0_indexOf_7cf53 cJ0_indexOf_7cf53 3 (some .int) :: TBL) B.pre w (List.mem_cons_of_mem _ h)
  have hown : s.vm.findClass "java/lang/String" = some m.cls := findClass_of_methodNamed B.named
  have hlocks := B.notSynchronized
  have hD := hD0
  subst hsz
  have hFc : ∀ q, va_A (wX G ad S) s.heap.size q → va_A (wX G ad S) s.heap.size q := fun _ h => h
  have hS : va_S (va_A (wX G ad S) s.heap.size) s.heap s.heap [] := va_S.rf
  have hP : va_P G.1 vwCl (wX G ad S) s.heap := hP
  have hl := lv_entry ([.ref (G.2.2.2 (310 + sk)), .int ((nI bz)), .int (0)]) (n := 3) (Nat.le_of_ble_eq_true rfl)
  rw [lg_entry_eq]
  generalize (lg_sl ([.ref (G.2.2.2 (310 + sk)), .int ((nI bz)), .int (0)]) ++ List.replicate (3 - (lg_sl ([.ref (G.2.2.2 (310 + sk)), .int ((nI bz)), .int (0)])).length) Slot.unset).toArray = ls at hl ⊢
  have hl : lv_has ls 3 [(0, .ref (G.2.2.2 (310 + sk))), (1, .int ((nI bz))), (2, .int (0))] := hl
  refine W_abs (fun Q hQ => ?_)
  generalize ([.ref (G.2.2.2 (310 + sk)), .int ((nI bz)), .int (0)] : List Value).toArray = args at hT hQ ⊢
  have hs6 := lenS_6 hsk
  refine lv_aload_n hx hb (fk_get fk_cJ0_indexOf_7cf53_0 0 rfl) rfl (lv_at hl 0 rfl) ?_
  refine vp_callSi (W.runV (As := []) (rest := []) ⟨hx, hb, hml, hown, hT⟩ (c_jisLatin1 l G ad S s.heap.size (sk) (hsk) (hX)) (tV 0 hT m3_14 m3_15 m3_16 m1_19 m3_17 rfl rfl (by decide +kernel) ⟨Nat.le_of_ble_eq_true rfl, Nat.le_of_ble_eq_true rfl⟩) ⟨PcE_blind, vk_recv hE.2.2.2.2.1.1 hsk hS, PcE_of hP hK hD hE hS (fun q h => hFc q h) _⟩ rfl rfl hl.1 rfl (lv_room (Nat.le_of_ble_eq_true rfl)) (fk_get fk_cJ0_indexOf_7cf53_0 1 rfl) ⟨Nat.zero_le _, Nat.zero_le _⟩) (fun r_1 hw_2 => ?_)
  try dsimp only at hw_2
  subst hw_2
  refine lv_if_eq (tgt := 23) hx hb (fk_get fk_cJ0_indexOf_7cf53_0 2 rfl) (by decide) (fun c_3 => absurd c_3 ((by decide))) (fun _ => ?_)
  refine lv_aload_n hx hb (fk_get fk_cJ0_indexOf_7cf53_0 3 rfl) rfl (lv_at hl 0 rfl) ?_
  refine vk_getf (v := .ref (G.2.2.2 (320 + sk))) hx hb (hE.2.2.2.2.1.1.1 sk hsk).2.2.1 hS hown (hT _ m7_221) (fun _ h9 => h9) (fk_get fk_cJ0_indexOf_7cf53_0 4 rfl) ?_
  refine lv_iload_n hx hb (fk_get fk_cJ0_indexOf_7cf53_0 5 rfl) rfl (lv_at hl 1 rfl) ?_
  refine lv_iload_n hx hb (fk_get fk_cJ0_indexOf_7cf53_0 6 rfl) rfl (lv_at hl 2 rfl) ?_
  refine lv_aload_n hx hb (fk_get fk_cJ0_indexOf_7cf53_0 7 rfl) rfl (lv_at hl 0 rfl) ?_
  refine vp_callSi (W.runV (As := []) (rest := [.int (0), .int ((nI bz)), .ref (G.2.2.2 (320 + sk))]) ⟨hx, hb, hml, hown, hT⟩ (c_jslen l G ad S s.heap.size (sk) (hsk) (hX)) (tV 0 hT m3_85 m3_1 m3_2 m1_19 m3_3 rfl rfl (by decide +kernel) ⟨Nat.le_of_ble_eq_true rfl, Nat.le_of_ble_eq_true rfl⟩) ⟨PcE_blind, vk_recv hE.2.2.2.2.1.1 hsk hS, PcE_of hP hK hD hE hS (fun q h => hFc q h) _⟩ rfl rfl hl.1 rfl (lv_room (Nat.le_of_ble_eq_true rfl)) (fk_get fk_cJ0_indexOf_7cf53_0 8 rfl) ⟨Nat.zero_le _, Nat.zero_le _⟩) (fun r_4 hw_5 => ?_)
  try dsimp only at hw_5
  subst hw_5
  refine vp_callSi (W.runS (As := [.ref (G.2.2.2 (320 + sk)), .int ((nI bz)), .int (0), .int ((nI (lenS.getD sk 0)))]) (rest := []) ⟨hx, hb, hml, hown, hT⟩ (c_jlixE l G ad S s.heap.size (sk) (bz) (hsk) (by first | assumption | omega) (hX)) (tS 4 hT m3_86 m3_87 m1_20 m3_88 rfl rfl (by decide +kernel) ⟨Nat.le_of_ble_eq_true rfl, Nat.le_of_ble_eq_true rfl⟩) ⟨PcE_blind, PcE_of hP hK hD hE hS (fun q h => hFc q h) _⟩ rfl rfl hl.1 rfl (lv_room (Nat.le_of_ble_eq_true rfl)) (fk_get fk_cJ0_indexOf_7cf53_0 9 rfl) ⟨Nat.zero_le _, Nat.zero_le _⟩) (fun r_6 hw_7 => ?_)
  try dsimp only at hw_7
  refine lv_goto (tgt := 36) hx hb (fk_get fk_cJ0_indexOf_7cf53_0 10 rfl) (by decide) ?_
  subst hQ
  have hpost : IxP (bytS.getD sk []) (nI bz) (r_6 : Int32) := by
    assumption
  exact W.iret (v := r_6) hx hb hr (fun t_ ht_ hW_ => ⟨r_6, rfl, hpost, ht_⟩) (fun q h => by cases h) (fk_get fk_cJ0_indexOf_7cf53_0 11 rfl)
set_option maxHeartbeats 800000 in
set_option maxRecDepth 100000 in
theorem c_jix1E (l : Launch) (G : GG) (ad : Nat → Nat) (S : FS) (sz : Nat) (sk bz : Nat) (hsk : sk < 6) (hbz : bz < 128) (hX : XI S) : Met l yJ0_indexOf_0f7a4 (Cond.code yJ0_indexOf_0f7a4 cJ0_indexOf_0f7a4 2 (some .int) :: TBL) ({ frames := 5, cells := 0, slots := 0, locals := 146 } : Room) (PcE G (wX G ad S) sz [.ref (G.2.2.2 (310 + sk)), .int ((nI bz))]) (vp_Si (fun (r : Int32) => IxP (bytS.getD sk []) (nI bz) r)) 0 0 (fun _ => False) := by
  refine va_MetF (cc := cJ0_indexOf_0f7a4) (maxL := 2) (ret := (some .int)) (by decide +kernel) rfl ?_
  intro p e s m args below meth c₀ s₁ B hml hv
  obtain ⟨rfl, hsz, hP, hK, hD0, hE⟩ := hv
  have hx := B.exec
  have hb := B.bytes
  have hr := B.returns
  have hT : ∀ w ∈ TBL, w.before ([.ref (G.2.2.2 (310 + sk)), .int ((nI bz))] : List Value).toArray s = true := fun w h => atoms_spec (ws := Cond.code yJ0_indexOf_0f7a4 cJ0_indexOf_0f7a4 2 (some .int) :: TBL) B.pre w (List.mem_cons_of_mem _ h)
  have hown : s.vm.findClass "java/lang/String" = some m.cls := findClass_of_methodNamed B.named
  have hlocks := B.notSynchronized
  have hD := hD0
  subst hsz
  have hFc : ∀ q, va_A (wX G ad S) s.heap.size q → va_A (wX G ad S) s.heap.size q := fun _ h => h
  have hS : va_S (va_A (wX G ad S) s.heap.size) s.heap s.heap [] := va_S.rf
  have hP : va_P G.1 vwCl (wX G ad S) s.heap := hP
  have hl := lv_entry ([.ref (G.2.2.2 (310 + sk)), .int ((nI bz))]) (n := 2) (Nat.le_of_ble_eq_true rfl)
  rw [lg_entry_eq]
  generalize (lg_sl ([.ref (G.2.2.2 (310 + sk)), .int ((nI bz))]) ++ List.replicate (2 - (lg_sl ([.ref (G.2.2.2 (310 + sk)), .int ((nI bz))])).length) Slot.unset).toArray = ls at hl ⊢
  have hl : lv_has ls 2 [(0, .ref (G.2.2.2 (310 + sk))), (1, .int ((nI bz)))] := hl
  refine W_abs (fun Q hQ => ?_)
  generalize ([.ref (G.2.2.2 (310 + sk)), .int ((nI bz))] : List Value).toArray = args at hT hQ ⊢
  have hs6 := lenS_6 hsk
  refine lv_aload_n hx hb (fk_get fk_cJ0_indexOf_0f7a4_0 0 rfl) rfl (lv_at hl 0 rfl) ?_
  refine lv_iload_n hx hb (fk_get fk_cJ0_indexOf_0f7a4_0 1 rfl) rfl (lv_at hl 1 rfl) ?_
  refine lv_iconst (v := 0) hx hb (fk_get fk_cJ0_indexOf_0f7a4_0 2 rfl) (by decide) ?_
  refine vp_callSi (W.runV (As := [.int ((nI bz)), .int (0)]) (rest := []) ⟨hx, hb, hml, hown, hT⟩ (c_jix2E l G ad S s.heap.size (sk) (bz) (hsk) (by first | assumption | omega) (hX)) (tV 2 hT m3_81 m3_82 m3_83 m1_19 m3_84 rfl rfl (by decide +kernel) ⟨Nat.le_of_ble_eq_true rfl, Nat.le_of_ble_eq_true rfl⟩) ⟨PcE_blind, vk_recv hE.2.2.2.2.1.1 hsk hS, PcE_of hP hK hD hE hS (fun q h => hFc q h) _⟩ rfl rfl hl.1 rfl (lv_room (Nat.le_of_ble_eq_true rfl)) (fk_get fk_cJ0_indexOf_0f7a4_0 3 rfl) ⟨Nat.zero_le _, Nat.zero_le _⟩) (fun r_1 hw_2 => ?_)
  try dsimp only at hw_2
  subst hQ
  have hpost : IxP (bytS.getD sk []) (nI bz) (r_1 : Int32) := by
    assumption
  exact W.iret (v := r_1) hx hb hr (fun t_ ht_ hW_ => ⟨r_1, rfl, hpost, ht_⟩) (fun q h => by cases h) (fk_get fk_cJ0_indexOf_0f7a4_0 4 rfl)
set_option maxHeartbeats 800000 in
set_option maxRecDepth 100000 in
theorem c_x9_tooE (l : Launch) (G : GG) (ad : Nat → Nat) (S : FS) (sz : Nat) (sk z pz : Nat) (τ : Nat → Int32) (hsk : sk < 6) (hTx : TXz S z τ) (hp : fF S 57 2 = nI pz) (hp1 : pz ≤ 200) (hX : XI S) : Met l yX9_takesOneOf (Cond.code yX9_takesOneOf cX9_takesOneOf 4 (some .int) :: TBL) ({ frames := 6, cells := 0, slots := 0, locals := 171 } : Room) (PcE G (wX G ad S) sz [.ref (ad 57), .ref (G.2.2.2 (310 + sk))]) (va_Qi (fun (r : Int32) (S' : FS) => XI S' ∧ Fr (fun j k => j = 57 ∧ k = 2) S S' ∧ IxT sk (τ pz) r ∧ ((r < 0 ∧ fF S' 57 2 = nI pz) ∨ (¬ r < 0 ∧ fF S' 57 2 = nI (pz + 1)))) (fun S' t => BW G (va_A (wX G ad S) sz) (wX G ad S') t) (va_A (wX G ad S) sz)) 0 0 (va_A (wX G ad S) sz) := by
  refine Met.ofW (cc := cX9_takesOneOf) (maxL := 4) (ret := (some .int)) (by decide) rfl ?_
  intro p e s m args below meth c₀ s₁ B hml hv
  obtain ⟨rfl, hsz, hP, hK, hD0, hE⟩ := hv
  have hx := B.exec
  have hb := B.bytes
  have hr := B.returns
  have hT : ∀ w ∈ TBL, w.before ([.ref (ad 57), .ref (G.2.2.2 (310 + sk))] : List Value).toArray s = true := fun w h => atoms_spec (ws := Cond.code yX9_takesOneOf cX9_takesOneOf 4 (some .int) :: TBL) B.pre w (List.mem_cons_of_mem _ h)
  have hown : s.vm.findClass "LittleMore$Text" = some m.cls := findClass_of_methodNamed B.named
  have hlocks := B.notSynchronized
  subst hsz
  have hD := hD0.self (sz := s.heap.size)
  generalize hAe : va_A (wX G ad S) s.heap.size = A at hD hE ⊢
  have hA : ∀ q : Nat, s.heap.size ≤ q → A q := fun q h => by rw [← hAe]; exact Or.inr h
  have hS : va_S A s.heap s.heap [] := va_S.rf
  have hP : va_P G.1 vwCl (wX G ad S) s.heap := hP
  have hl := lv_entry ([.ref (ad 57), .ref (G.2.2.2 (310 + sk))]) (n := 4) (Nat.le_of_ble_eq_true rfl)
  rw [lg_entry_eq]
  generalize (lg_sl ([.ref (ad 57), .ref (G.2.2.2 (310 + sk))]) ++ List.replicate (4 - (lg_sl ([.ref (ad 57), .ref (G.2.2.2 (310 + sk))])).length) Slot.unset).toArray = ls at hl ⊢
  have hl : lv_has ls 4 [(0, .ref (ad 57)), (1, .ref (G.2.2.2 (310 + sk)))] := hl
  refine W_abs (fun Q hQ => ?_)
  generalize ([.ref (ad 57), .ref (G.2.2.2 (310 + sk))] : List Value).toArray = args at hT hQ ⊢
  have hz1 := hTx.2.1
  refine lv_aload_n hx hb (fk_get fk_cX9_takesOneOf_0 0 rfl) rfl (lv_at hl 0 rfl) ?_
  refine lv_aload_n hx hb (fk_get fk_cX9_takesOneOf_0 1 rfl) rfl (lv_at hl 0 rfl) ?_
  refine va_get (D := G.1) (ci := 11) (v := .int (fF S 57 2)) (C := RX9) (T := TX9) (N := 9) hx hb hT inX9 hown hK hP 57 (ix_at (lt71 (by omega)) (cX_text G ad S)) rfl 2 (by decide) (hT _ m2_5) (fun _ h9 => h9) rfl (fk_get fk_cX9_takesOneOf_0 2 rfl) ?_
  rw [show (fF S 57 2) = (nI pz) from hp]
  refine vp_callSi (W.runV (As := [.int ((nI pz))]) (rest := []) ⟨hx, hb, hml, hown, hT⟩ (c_x9_sig l G ad S s.heap.size (z) (pz) (τ) (by first | assumption | exact hTx) (by first | assumption | omega) (hX)) (tV 1 hT m2_217 m2_219 mp_1 m1_12 m2_220 rfl rfl (by decide +kernel) ⟨Nat.le_of_ble_eq_true rfl, Nat.le_of_ble_eq_true rfl⟩) ⟨PcW_blind, va_recv hK hP (ci := 11) (q0 := 57) rfl (ix_at (lt71 (by omega)) (cX_text G ad S)), PcW_of hP hK hD _⟩ rfl rfl hl.1 rfl (lv_room (Nat.le_of_ble_eq_true rfl)) (fk_get fk_cX9_takesOneOf_0 3 rfl) ⟨Nat.zero_le _, Nat.zero_le _⟩) (fun r_1 hw_2 => ?_)
  try dsimp only at hw_2
  subst hw_2
  refine lv_istore_n (lv' := [(2, .int ((τ pz))), (0, .ref (ad 57)), (1, .ref (G.2.2.2 (310 + sk)))]) hx hb (fk_get fk_cX9_takesOneOf_0 4 rfl) rfl hl (by decide) rfl (fun ls hl => ?_)
  refine lv_iload_n hx hb (fk_get fk_cX9_takesOneOf_0 5 rfl) rfl (lv_at hl 0 rfl) ?_
  refine lv_iconst (v := (-1)) hx hb (fk_get fk_cX9_takesOneOf_0 6 rfl) (by decide) ?_
  refine lv_icmp_ne (tgt := 16) hx hb (fk_get fk_cX9_takesOneOf_0 7 rfl) (by decide) (fun c_3 => ?_) (fun c_3 => ?_)
  · obtain ⟨bz, hbz, eb⟩ := tau_b hTx c_3
    refine lv_aload_n hx hb (fk_get fk_cX9_takesOneOf_0 10 rfl) rfl (lv_at hl 2 rfl) ?_
    refine lv_iload_n hx hb (fk_get fk_cX9_takesOneOf_0 11 rfl) rfl (lv_at hl 0 rfl) ?_
    refine lv_i2c hx hb (fk_get fk_cX9_takesOneOf_0 12 rfl) rfl ?_
    rw [show (((τ pz)).toUInt32 % 65536).toInt32 = (nI bz) from (by rw [eb]; exact sc_n hbz)]
    have hFc := va_self hD hS hA
    refine vp_callSi (W.runV (As := [.int ((nI bz))]) (rest := []) ⟨hx, hb, hml, hown, hT⟩ (c_jix1E l G ad S s.heap.size (sk) (bz) (hsk) (by first | assumption | omega) (hX)) (tV 1 hT m3_77 m3_78 m3_79 m1_19 m3_80 rfl rfl (by decide +kernel) ⟨Nat.le_of_ble_eq_true rfl, Nat.le_of_ble_eq_true rfl⟩) ⟨PcE_blind, vk_recv hE.2.2.2.2.1.1 hsk hS, PcE_of hP hK hD hE hS (fun q h => hFc q h) _⟩ rfl rfl hl.1 rfl (lv_room (Nat.le_of_ble_eq_true rfl)) (fk_get fk_cX9_takesOneOf_0 13 rfl) ⟨Nat.zero_le _, Nat.zero_le _⟩) (fun r_4 hw_5 => ?_)
    try dsimp only at hw_5
    have hix := ixt_of hw_5
    rw [← eb] at hix
    refine lv_istore_n (lv' := [(3, .int (r_4)), (2, .int ((τ pz))), (0, .ref (ad 57)), (1, .ref (G.2.2.2 (310 + sk)))]) hx hb (fk_get fk_cX9_takesOneOf_0 14 rfl) rfl hl (by decide) rfl (fun ls hl => ?_)
    refine lv_iload_n hx hb (fk_get fk_cX9_takesOneOf_0 15 rfl) rfl (lv_at hl 0 rfl) ?_
    refine lv_if_lt (tgt := 37) hx hb (fk_get fk_cX9_takesOneOf_0 16 rfl) (by decide) (fun c_6 => ?_) (fun c_6 => ?_)
    · refine lv_iload_n hx hb (fk_get fk_cX9_takesOneOf_0 23 rfl) rfl (lv_at hl 0 rfl) ?_
      subst hQ
      have hpost : XI S ∧ Fr (fun j k => j = 57 ∧ k = 2) S S ∧ IxT sk (τ pz) (r_4 : Int32) ∧ (((r_4 : Int32) < 0 ∧ fF S 57 2 = nI pz) ∨ (¬ (r_4 : Int32) < 0 ∧ fF S 57 2 = nI (pz + 1))) := by
        exact ⟨hX, (Fr.rf : Fr (fun j k => j = 57 ∧ k = 2) S S), by first | exact ⟨by rw [show τ pz = -1 from by assumption]; exact ixt_m sk, Or.inl ⟨by decide, hp⟩⟩ | exact ⟨hix, Or.inl ⟨by assumption, hp⟩⟩ | exact ⟨hix, Or.inr ⟨by first | assumption | exact Int32.not_lt.mpr (by assumption), rfl⟩⟩⟩
      exact W.iret (v := r_4) hx hb hr (fun t_ ht_ hW_ => ⟨⟨r_4, S, rfl, hpost, by rw [ht_]; exact hP, va_K.moved hW_.alike hK, hD⟩, hS.F ht_⟩) hS.2.2 (fk_get fk_cX9_takesOneOf_0 24 rfl)
    refine lv_aload_n hx hb (fk_get fk_cX9_takesOneOf_0 17 rfl) rfl (lv_at hl 2 rfl) ?_
    refine lv_dup hx hb (fk_get fk_cX9_takesOneOf_0 18 rfl) rfl ?_
    refine va_get (D := G.1) (ci := 11) (v := .int (fF S 57 2)) (C := RX9) (T := TX9) (N := 9) hx hb hT inX9 hown hK hP 57 (ix_at (lt71 (by omega)) (cX_text G ad S)) rfl 2 (by decide) (hT _ m2_5) (fun _ h9 => h9) rfl (fk_get fk_cX9_takesOneOf_0 19 rfl) ?_
    rw [show (fF S 57 2) = (nI pz) from hp]
    refine lv_iconst (v := 1) hx hb (fk_get fk_cX9_takesOneOf_0 20 rfl) (by decide) ?_
    refine lv_iadd hx hb (fk_get fk_cX9_takesOneOf_0 21 rfl) ?_
    rw [show ((nI pz) + 1) = (nI (pz + 1)) from (nI_1 pz)]
    refine va_put (D := G.1) (ci := 11) (v := .int ((nI (pz + 1)))) (ty := .int) (C := RX9) (T := TX9) (N := 9) hx hb hT inX9 tyX9 tyX9_ok nmX9 hown hK hP hD hS 57 (ix_at (lt71 (by omega)) (cX_text G ad S)) rfl 2 (by decide) (hT _ m2_5) (fun _ h9 => h9) rfl (by decide +kernel) rfl rfl (Nat.le_of_ble_eq_true rfl) (fk_get fk_cX9_takesOneOf_0 22 rfl) (fun H locs hP hD hS => ?_)
    rw [pX_text_2 (S := S) ((nI (pz + 1)))] at hP hD
    have hX_7 : XI (setF S 57 2 ((nI (pz + 1)))) := XI.sF hX _ ⟨by omega, by omega, by omega, by omega, by omega, by omega, by omega, by omega⟩
    have hF_8 : Fr (fun j k => j = 57 ∧ k = 2) S (setF S 57 2 ((nI (pz + 1)))) := Fr.sF (Fr.rf : Fr (fun j k => j = 57 ∧ k = 2) S S) (by omega)
    refine lv_iload_n hx hb (fk_get fk_cX9_takesOneOf_0 23 rfl) rfl (lv_at hl 0 rfl) ?_
    subst hQ
    have hpost : XI (setF S 57 2 ((nI (pz + 1)))) ∧ Fr (fun j k => j = 57 ∧ k = 2) S (setF S 57 2 ((nI (pz + 1)))) ∧ IxT sk (τ pz) (r_4 : Int32) ∧ (((r_4 : Int32) < 0 ∧ fF (setF S 57 2 ((nI (pz + 1)))) 57 2 = nI pz) ∨ (¬ (r_4 : Int32) < 0 ∧ fF (setF S 57 2 ((nI (pz + 1)))) 57 2 = nI (pz + 1))) := by
      exact ⟨hX_7, hF_8, by first | exact ⟨by rw [show τ pz = -1 from by assumption]; exact ixt_m sk, Or.inl ⟨by decide, hp⟩⟩ | exact ⟨hix, Or.inl ⟨by assumption, hp⟩⟩ | exact ⟨hix, Or.inr ⟨by first | assumption | exact Int32.not_lt.mpr (by assumption), rfl⟩⟩⟩
    exact W.iret (v := r_4) hx hb hr (fun t_ ht_ hW_ => ⟨⟨r_4, (setF S 57 2 ((nI (pz + 1)))), rfl, hpost, by rw [ht_]; exact hP, va_K.moved hW_.alike hK, hD⟩, hS.F ht_⟩) hS.2.2 (fk_get fk_cX9_takesOneOf_0 24 rfl)
  have hm1 := c_3
  refine lv_iconst (v := (-1)) hx hb (fk_get fk_cX9_takesOneOf_0 8 rfl) (by decide) ?_
  subst hQ
  have hpost : XI S ∧ Fr (fun j k => j = 57 ∧ k = 2) S S ∧ IxT sk (τ pz) ((-1) : Int32) ∧ ((((-1) : Int32) < 0 ∧ fF S 57 2 = nI pz) ∨ (¬ ((-1) : Int32) < 0 ∧ fF S 57 2 = nI (pz + 1))) := by
    exact ⟨hX, (Fr.rf : Fr (fun j k => j = 57 ∧ k = 2) S S), by first | exact ⟨by rw [show τ pz = -1 from by assumption]; exact ixt_m sk, Or.inl ⟨by decide, hp⟩⟩ | exact ⟨hix, Or.inl ⟨by assumption, hp⟩⟩ | exact ⟨hix, Or.inr ⟨by first | assumption | exact Int32.not_lt.mpr (by assumption), rfl⟩⟩⟩
  exact W.iret (v := (-1)) hx hb hr (fun t_ ht_ hW_ => ⟨⟨(-1), S, rfl, hpost, by rw [ht_]; exact hP, va_K.moved hW_.alike hK, hD⟩, hS.F ht_⟩) hS.2.2 (fk_get fk_cX9_takesOneOf_0 9 rfl)
set_option maxHeartbeats 800000 in
set_option maxRecDepth 100000 in
theorem c_x9_nameE (l : Launch) (G : GG) (ad : Nat → Nat) (S : FS) (sz : Nat) (wz : Nat) (hw4 : wz < 4) (hX : XI S) : Met l yX9_nameOf (Cond.code yX9_nameOf cX9_nameOf 1 (some (.object "java/lang/String")) :: TBL) ({ frames := 2, cells := 0, slots := 0, locals := 64 } : Room) (PcE G (wX G ad S) sz [.int ((nI wz))]) (va_Sq (fun (r : Option Nat) => r = some (G.2.2.2 (310 + wz)))) 0 0 (fun _ => False) := by
  refine Met.ofW (cc := cX9_nameOf) (maxL := 1) (ret := (some (.object "java/lang/String"))) (by decide) rfl ?_
  intro p e s m args below meth c₀ s₁ B hml hv
  obtain ⟨rfl, hsz, hP, hK, hD0, hE⟩ := hv
  have hx := B.exec
  have hb := B.bytes
  have hr := B.returns
  have hT : ∀ w ∈ TBL, w.before ([.int ((nI wz))] : List Value).toArray s = true := fun w h => atoms_spec (ws := Cond.code yX9_nameOf cX9_nameOf 1 (some (.object "java/lang/String")) :: TBL) B.pre w (List.mem_cons_of_mem _ h)
  have hown : s.vm.findClass "LittleMore$Text" = some m.cls := findClass_of_methodNamed B.named
  have hlocks := B.notSynchronized
  have hD := hD0
  subst hsz
  have hFc : ∀ q, va_A (wX G ad S) s.heap.size q → va_A (wX G ad S) s.heap.size q := fun _ h => h
  have hS : va_S (va_A (wX G ad S) s.heap.size) s.heap s.heap [] := va_S.rf
  have hP : va_P G.1 vwCl (wX G ad S) s.heap := hP
  have hl := lv_entry ([.int ((nI wz))]) (n := 1) (Nat.le_of_ble_eq_true rfl)
  rw [lg_entry_eq]
  generalize (lg_sl ([.int ((nI wz))]) ++ List.replicate (1 - (lg_sl ([.int ((nI wz))])).length) Slot.unset).toArray = ls at hl ⊢
  have hl : lv_has ls 1 [(0, .int ((nI wz)))] := hl
  refine W_abs (fun Q hQ => ?_)
  generalize ([.int ((nI wz))] : List Value).toArray = args at hT hQ ⊢
  refine lv_iload_n hx hb (fk_get fk_cX9_nameOf_0 0 rfl) rfl (lv_at hl 0 rfl) ?_
  by_cases c_1 : (nI wz) = (0 : Int32)
  · refine lv_tableIn (off := 27) (tgt := 28) hx hb (dk_get dk_cX9_nameOf_0 0 rfl) (by rw [c_1]; decide) (by rw [c_1]; decide) (by rw [c_1]; rfl) (by decide) ?_
    refine va_ldcS (q := G.2.2.2 (310 + 0)) (tx := txS 0) hx hb hown (hE.2.2.2.2.1.2 0 (by omega)) (fk_get fk_cX9_nameOf_0 1 rfl) ?_
    subst hQ
    have hpost : ((some (G.2.2.2 (310 + 0))) : Option Nat) = some (G.2.2.2 (310 + wz)) := by
      first | (have e_ := nm_k hw4 (k := 0) (by decide) (by assumption); subst e_; rfl) | (have e_ := nm_k hw4 (k := 1) (by decide) (by assumption); subst e_; rfl) | (have e_ := nm_k hw4 (k := 2) (by decide) (by assumption); subst e_; rfl) | (have e_ := nm_3 hw4 (by assumption) (by assumption) (by assumption); subst e_; rfl)
    exact W.aret hx hb hr (Or.inl ⟨_, rfl⟩) (Or.inr ⟨_, rfl⟩) (fun t_ ht_ hW_ => ⟨(some (G.2.2.2 (310 + 0))), rfl, hpost, ht_⟩) (fun q h => by cases h) (fk_get fk_cX9_nameOf_0 2 rfl)
  by_cases c_2 : (nI wz) = (1 : Int32)
  · refine lv_tableIn (off := 30) (tgt := 31) hx hb (dk_get dk_cX9_nameOf_0 0 rfl) (by rw [c_2]; decide) (by rw [c_2]; decide) (by rw [c_2]; rfl) (by decide) ?_
    refine va_ldcS (q := G.2.2.2 (310 + 1)) (tx := txS 1) hx hb hown (hE.2.2.2.2.1.2 1 (by omega)) (fk_get fk_cX9_nameOf_0 3 rfl) ?_
    subst hQ
    have hpost : ((some (G.2.2.2 (310 + 1))) : Option Nat) = some (G.2.2.2 (310 + wz)) := by
      first | (have e_ := nm_k hw4 (k := 0) (by decide) (by assumption); subst e_; rfl) | (have e_ := nm_k hw4 (k := 1) (by decide) (by assumption); subst e_; rfl) | (have e_ := nm_k hw4 (k := 2) (by decide) (by assumption); subst e_; rfl) | (have e_ := nm_3 hw4 (by assumption) (by assumption) (by assumption); subst e_; rfl)
    exact W.aret hx hb hr (Or.inl ⟨_, rfl⟩) (Or.inr ⟨_, rfl⟩) (fun t_ ht_ hW_ => ⟨(some (G.2.2.2 (310 + 1))), rfl, hpost, ht_⟩) (fun q h => by cases h) (fk_get fk_cX9_nameOf_0 4 rfl)
  by_cases c_3 : (nI wz) = (2 : Int32)
  · refine lv_tableIn (off := 33) (tgt := 34) hx hb (dk_get dk_cX9_nameOf_0 0 rfl) (by rw [c_3]; decide) (by rw [c_3]; decide) (by rw [c_3]; rfl) (by decide) ?_
    refine va_ldcS (q := G.2.2.2 (310 + 2)) (tx := txS 2) hx hb hown (hE.2.2.2.2.1.2 2 (by omega)) (fk_get fk_cX9_nameOf_0 5 rfl) ?_
    subst hQ
    have hpost : ((some (G.2.2.2 (310 + 2))) : Option Nat) = some (G.2.2.2 (310 + wz)) := by
      first | (have e_ := nm_k hw4 (k := 0) (by decide) (by assumption); subst e_; rfl) | (have e_ := nm_k hw4 (k := 1) (by decide) (by assumption); subst e_; rfl) | (have e_ := nm_k hw4 (k := 2) (by decide) (by assumption); subst e_; rfl) | (have e_ := nm_3 hw4 (by assumption) (by assumption) (by assumption); subst e_; rfl)
    exact W.aret hx hb hr (Or.inl ⟨_, rfl⟩) (Or.inr ⟨_, rfl⟩) (fun t_ ht_ hW_ => ⟨(some (G.2.2.2 (310 + 2))), rfl, hpost, ht_⟩) (fun q h => by cases h) (fk_get fk_cX9_nameOf_0 6 rfl)
  have o_4 : ((nI wz)).toInt < 0 ∨ 2 < ((nI wz)).toInt := by
    have qc_1 : ¬ ((nI wz)).toInt = 0 := lv_neT c_1 (by decide)
    have qc_2 : ¬ ((nI wz)).toInt = 1 := lv_neT c_2 (by decide)
    have qc_3 : ¬ ((nI wz)).toInt = 2 := lv_neT c_3 (by decide)
    omega
  refine lv_tableOut (tgt := 37) hx hb (dk_get dk_cX9_nameOf_0 0 rfl) o_4 (by decide) ?_
  refine va_ldcS (q := G.2.2.2 (310 + 3)) (tx := txS 3) hx hb hown (hE.2.2.2.2.1.2 3 (by omega)) (fk_get fk_cX9_nameOf_0 7 rfl) ?_
  subst hQ
  have hpost : ((some (G.2.2.2 (310 + 3))) : Option Nat) = some (G.2.2.2 (310 + wz)) := by
    first | (have e_ := nm_k hw4 (k := 0) (by decide) (by assumption); subst e_; rfl) | (have e_ := nm_k hw4 (k := 1) (by decide) (by assumption); subst e_; rfl) | (have e_ := nm_k hw4 (k := 2) (by decide) (by assumption); subst e_; rfl) | (have e_ := nm_3 hw4 (by assumption) (by assumption) (by assumption); subst e_; rfl)
  exact W.aret hx hb hr (Or.inl ⟨_, rfl⟩) (Or.inr ⟨_, rfl⟩) (fun t_ ht_ hW_ => ⟨(some (G.2.2.2 (310 + 3))), rfl, hpost, ht_⟩) (fun q h => by cases h) (fk_get fk_cX9_nameOf_0 8 rfl)
set_option maxHeartbeats 800000 in
set_option maxRecDepth 100000 in
theorem c_jlcharAtE (l : Launch) (G : GG) (ad : Nat → Nat) (S : FS) (sz : Nat) (sk jz : Nat) (hsk : sk < 6) (hj : jz < lenS.getD sk 0) (hX : XI S) : Met l yJ1_charAt_3b067 (Cond.code yJ1_charAt_3b067 cJ1_charAt_3b067 2 (some .char) :: TBL) ({ frames := 4, cells := 0, slots := 0, locals := 115 } : Room) (PcE G (wX G ad S) sz [.ref (G.2.2.2 (320 + sk)), .int ((nI jz))]) (vp_Si (fun (r : Int32) => r = (bytS.getD sk []).getD jz 0)) 0 0 (fun _ => False) := by
  refine va_MetF (cc := cJ1_charAt_3b067) (maxL := 2) (ret := (some .char)) (by decide +kernel) rfl ?_
  intro p e s m args below meth c₀ s₁ B hml hv
  obtain ⟨rfl, hsz, hP, hK, hD0, hE⟩ := hv
  have hx := B.exec
  have hb := B.bytes
  have hr := B.returns
  have hT : ∀ w ∈ TBL, w.before ([.ref (G.2.2.2 (320 + sk)), .int ((nI jz))] : List Value).toArray s = true := fun w h => atoms_spec (ws := Cond.code yJ1_charAt_3b067 cJ1_charAt_3b067 2 (some .char) :: TBL) B.pre w (List.mem_cons_of_mem _ h)
  have hown : s.vm.findClass "java/lang/StringLatin1" = some m.cls := findClass_of_methodNamed B.named
  have hlocks := B.notSynchronized
  have hD := hD0
  subst hsz
  have hFc : ∀ q, va_A (wX G ad S) s.heap.size q → va_A (wX G ad S) s.heap.size q := fun _ h => h
  have hS : va_S (va_A (wX G ad S) s.heap.size) s.heap s.heap [] := va_S.rf
  have hP : va_P G.1 vwCl (wX G ad S) s.heap := hP
  have hl := lv_entry ([.ref (G.2.2.2 (320 + sk)), .int ((nI jz))]) (n := 2) (Nat.le_of_ble_eq_true rfl)
  rw [lg_entry_eq]
  generalize (lg_sl ([.ref (G.2.2.2 (320 + sk)), .int ((nI jz))]) ++ List.replicate (2 - (lg_sl ([.ref (G.2.2.2 (320 + sk)), .int ((nI jz))])).length) Slot.unset).toArray = ls at hl ⊢
  have hl : lv_has ls 2 [(0, .ref (G.2.2.2 (320 + sk))), (1, .int ((nI jz)))] := hl
  refine W_abs (fun Q hQ => ?_)
  generalize ([.ref (G.2.2.2 (320 + sk)), .int ((nI jz))] : List Value).toArray = args at hT hQ ⊢
  have hs6 := lenS_6 hsk
  refine lv_iload_n hx hb (fk_get fk_cJ1_charAt_3b067_0 0 rfl) rfl (lv_at hl 1 rfl) ?_
  refine lv_aload_n hx hb (fk_get fk_cJ1_charAt_3b067_0 1 rfl) rfl (lv_at hl 0 rfl) ?_
  refine va_tlen (v := nI (lenS.getD sk 0)) hx hb (hE.2.2.2.2.1.1.1 sk hsk).2.2.2 hS rfl (fk_get fk_cJ1_charAt_3b067_0 2 rfl) ?_
  refine va_csv (W.runS (As := [.int ((nI jz)), .int ((nI (lenS.getD sk 0)))]) (rest := []) ⟨hx, hb, hml, hown, hT⟩ (c_jchk l G ad S s.heap.size ((nI jz)) ((nI (lenS.getD sk 0))) (nI_pos (by omega)) (nI_lt hj (by omega)) (hX)) (tS 2 hT m3_21 m3_22 m1_19 m3_23 rfl rfl (by decide +kernel) ⟨Nat.le_of_ble_eq_true rfl, Nat.le_of_ble_eq_true rfl⟩) ⟨PcE_blind, PcE_of hP hK hD hE hS (fun q h => hFc q h) _⟩ rfl rfl hl.1 rfl (lv_room (Nat.le_of_ble_eq_true rfl)) (fk_get fk_cJ1_charAt_3b067_0 3 rfl) ⟨Nat.zero_le _, Nat.zero_le _⟩) (fun hw_2 => ?_)
  try dsimp only at hw_2
  refine lv_aload_n hx hb (fk_get fk_cJ1_charAt_3b067_0 4 rfl) rfl (lv_at hl 0 rfl) ?_
  refine lv_iload_n hx hb (fk_get fk_cJ1_charAt_3b067_0 5 rfl) rfl (lv_at hl 1 rfl) ?_
  refine va_tb (v := .int ((bytS.getD sk []).getD ((nI jz) : Int32).toNatClampNeg 0)) hx hb (hE.2.2.2.2.1.1.1 sk hsk).2.2.2 hS (by rw [show ((nI jz) : Int32) = nI jz from rfl]; exact vp_in_nI (by omega) (lenS_lt hsk)) rfl (fk_get fk_cJ1_charAt_3b067_0 6 rfl) ?_
  rw [show ((bytS.getD sk []).getD ((nI jz) : Int32).toNatClampNeg 0) = ((bytS.getD sk []).getD jz 0) from by rw [show ((nI jz) : Int32) = nI jz from rfl, nI_clamp (by omega)]]
  refine lv_sipush (v := 255) hx hb (fk_get fk_cJ1_charAt_3b067_0 7 rfl) (by decide) ?_
  refine lv_iand hx hb (fk_get fk_cJ1_charAt_3b067_0 8 rfl) ?_
  rw [show (((bytS.getD sk []).getD jz 0) &&& 255) = ((bytS.getD sk []).getD jz 0) from (byt_255 hsk (by omega))]
  refine lv_i2c hx hb (fk_get fk_cJ1_charAt_3b067_0 9 rfl) rfl ?_
  rw [show ((((bytS.getD sk []).getD jz 0)).toUInt32 % 65536).toInt32 = ((bytS.getD sk []).getD jz 0) from (byt_c hsk (by omega))]
  subst hQ
  have hpost : (((bytS.getD sk []).getD jz 0) : Int32) = (bytS.getD sk []).getD jz 0 := by
    rfl
  exact W.zret (v := ((bytS.getD sk []).getD jz 0)) hx hb hr (by rw [← byt_255 hsk (by omega)]; exact sc_nar _) (fun t_ ht_ hW_ => ⟨((bytS.getD sk []).getD jz 0), rfl, hpost, ht_⟩) (fun q h => by cases h) (fk_get fk_cJ1_charAt_3b067_0 10 rfl)
set_option maxHeartbeats 800000 in
set_option maxRecDepth 100000 in
theorem c_jcharAtE (l : Launch) (G : GG) (ad : Nat → Nat) (S : FS) (sz : Nat) (sk jz : Nat) (hsk : sk < 6) (hj : jz < lenS.getD sk 0) (hX : XI S) : Met l yJ0_charAt_5068e (Cond.code yJ0_charAt_5068e cJ0_charAt_5068e 2 (some .char) :: TBL) ({ frames := 5, cells := 0, slots := 0, locals := 140 } : Room) (PcE G (wX G ad S) sz [.ref (G.2.2.2 (310 + sk)), .int ((nI jz))]) (vp_Si (fun (r : Int32) => r = (bytS.getD sk []).getD jz 0)) 0 0 (fun _ => False) := by
  refine va_MetF (cc := cJ0_charAt_5068e) (maxL := 2) (ret := (some .char)) (by decide +kernel) rfl ?_
  intro p e s m args below meth c₀ s₁ B hml hv
  obtain ⟨rfl, hsz, hP, hK, hD0, hE⟩ := hv
  have hx := B.exec
  have hb := B.bytes
  have hr := B.returns
  have hT : ∀ w ∈ TBL, w.before ([.ref (G.2.2.2 (310 + sk)), .int ((nI jz))] : List Value).toArray s = true := fun w h => atoms_spec (ws := Cond.code yJ0_charAt_5068e cJ0_charAt_5068e 2 (some .char) :: TBL) B.pre w (List.mem_cons_of_mem _ h)
  have hown : s.vm.findClass "java/lang/String" = some m.cls := findClass_of_methodNamed B.named
  have hlocks := B.notSynchronized
  have hD := hD0
  subst hsz
  have hFc : ∀ q, va_A (wX G ad S) s.heap.size q → va_A (wX G ad S) s.heap.size q := fun _ h => h
  have hS : va_S (va_A (wX G ad S) s.heap.size) s.heap s.heap [] := va_S.rf
  have hP : va_P G.1 vwCl (wX G ad S) s.heap := hP
  have hl := lv_entry ([.ref (G.2.2.2 (310 + sk)), .int ((nI jz))]) (n := 2) (Nat.le_of_ble_eq_true rfl)
  rw [lg_entry_eq]
  generalize (lg_sl ([.ref (G.2.2.2 (310 + sk)), .int ((nI jz))]) ++ List.replicate (2 - (lg_sl ([.ref (G.2.2.2 (310 + sk)), .int ((nI jz))])).length) Slot.unset).toArray = ls at hl ⊢
  have hl : lv_has ls 2 [(0, .ref (G.2.2.2 (310 + sk))), (1, .int ((nI jz)))] := hl
  refine W_abs (fun Q hQ => ?_)
  generalize ([.ref (G.2.2.2 (310 + sk)), .int ((nI jz))] : List Value).toArray = args at hT hQ ⊢
  have hs6 := lenS_6 hsk
  refine lv_aload_n hx hb (fk_get fk_cJ0_charAt_5068e_0 0 rfl) rfl (lv_at hl 0 rfl) ?_
  refine vp_callSi (W.runV (As := []) (rest := []) ⟨hx, hb, hml, hown, hT⟩ (c_jisLatin1 l G ad S s.heap.size (sk) (hsk) (hX)) (tV 0 hT m3_14 m3_15 m3_16 m1_19 m3_17 rfl rfl (by decide +kernel) ⟨Nat.le_of_ble_eq_true rfl, Nat.le_of_ble_eq_true rfl⟩) ⟨PcE_blind, vk_recv hE.2.2.2.2.1.1 hsk hS, PcE_of hP hK hD hE hS (fun q h => hFc q h) _⟩ rfl rfl hl.1 rfl (lv_room (Nat.le_of_ble_eq_true rfl)) (fk_get fk_cJ0_charAt_5068e_0 1 rfl) ⟨Nat.zero_le _, Nat.zero_le _⟩) (fun r_1 hw_2 => ?_)
  try dsimp only at hw_2
  subst hw_2
  refine lv_if_eq (tgt := 16) hx hb (fk_get fk_cJ0_charAt_5068e_0 2 rfl) (by decide) (fun c_3 => absurd c_3 ((by decide))) (fun _ => ?_)
  refine lv_aload_n hx hb (fk_get fk_cJ0_charAt_5068e_0 3 rfl) rfl (lv_at hl 0 rfl) ?_
  refine vk_getf (v := .ref (G.2.2.2 (320 + sk))) hx hb (hE.2.2.2.2.1.1.1 sk hsk).2.2.1 hS hown (hT _ m7_221) (fun _ h9 => h9) (fk_get fk_cJ0_charAt_5068e_0 4 rfl) ?_
  refine lv_iload_n hx hb (fk_get fk_cJ0_charAt_5068e_0 5 rfl) rfl (lv_at hl 1 rfl) ?_
  refine vp_callSi (W.runS (As := [.ref (G.2.2.2 (320 + sk)), .int ((nI jz))]) (rest := []) ⟨hx, hb, hml, hown, hT⟩ (c_jlcharAtE l G ad S s.heap.size (sk) (jz) (hsk) (by first | assumption | omega) (hX)) (tS 2 hT m3_18 m3_19 m1_20 m3_20 rfl rfl (by decide +kernel) ⟨Nat.le_of_ble_eq_true rfl, Nat.le_of_ble_eq_true rfl⟩) ⟨PcE_blind, PcE_of hP hK hD hE hS (fun q h => hFc q h) _⟩ rfl rfl hl.1 rfl (lv_room (Nat.le_of_ble_eq_true rfl)) (fk_get fk_cJ0_charAt_5068e_0 6 rfl) ⟨Nat.zero_le _, Nat.zero_le _⟩) (fun r_4 hw_5 => ?_)
  try dsimp only at hw_5
  subst hw_5
  subst hQ
  have hpost : (((bytS.getD sk []).getD jz 0) : Int32) = (bytS.getD sk []).getD jz 0 := by
    rfl
  exact W.zret (v := ((bytS.getD sk []).getD jz 0)) hx hb hr (by rw [← byt_255 hsk (by omega)]; exact sc_nar _) (fun t_ ht_ hW_ => ⟨((bytS.getD sk []).getD jz 0), rfl, hpost, ht_⟩) (fun q h => by cases h) (fk_get fk_cJ0_charAt_5068e_0 7 rfl)
set_option maxHeartbeats 800000 in
set_option maxRecDepth 100000 in
theorem c_x9_alikeE (l : Launch) (G : GG) (ad : Nat → Nat) (S : FS) (sz : Nat) (sk z pz : Nat) (τ : Nat → Int32) (hsk : sk < 6) (hTx : TXz S z τ) (hp : fF S 57 2 = nI pz) (hp1 : pz ≤ 200) (hX : XI S) : Met l yX9_howManyAlike (Cond.code yX9_howManyAlike cX9_howManyAlike 3 (some .int) :: TBL) ({ frames := 6, cells := 0, slots := 0, locals := 165 } : Room) (PcE G (wX G ad S) sz [.ref (ad 57), .ref (G.2.2.2 (310 + sk))]) (vp_Si (fun (r : Int32) => r = nI (alk (τ) (bytS.getD sk []) pz))) 0 0 (fun _ => False) := by
  refine Met.ofW (cc := cX9_howManyAlike) (maxL := 3) (ret := (some .int)) (by decide) rfl ?_
  intro p e s m args below meth c₀ s₁ B hml hv
  obtain ⟨rfl, hsz, hP, hK, hD0, hE⟩ := hv
  have hx := B.exec
  have hb := B.bytes
  have hr := B.returns
  have hT : ∀ w ∈ TBL, w.before ([.ref (ad 57), .ref (G.2.2.2 (310 + sk))] : List Value).toArray s = true := fun w h => atoms_spec (ws := Cond.code yX9_howManyAlike cX9_howManyAlike 3 (some .int) :: TBL) B.pre w (List.mem_cons_of_mem _ h)
  have hown : s.vm.findClass "LittleMore$Text" = some m.cls := findClass_of_methodNamed B.named
  have hlocks := B.notSynchronized
  have hD := hD0
  subst hsz
  have hFc : ∀ q, va_A (wX G ad S) s.heap.size q → va_A (wX G ad S) s.heap.size q := fun _ h => h
  have hS : va_S (va_A (wX G ad S) s.heap.size) s.heap s.heap [] := va_S.rf
  have hP : va_P G.1 vwCl (wX G ad S) s.heap := hP
  have hl := lv_entry ([.ref (ad 57), .ref (G.2.2.2 (310 + sk))]) (n := 3) (Nat.le_of_ble_eq_true rfl)
  rw [lg_entry_eq]
  generalize (lg_sl ([.ref (ad 57), .ref (G.2.2.2 (310 + sk))]) ++ List.replicate (3 - (lg_sl ([.ref (ad 57), .ref (G.2.2.2 (310 + sk))])).length) Slot.unset).toArray = ls at hl ⊢
  have hl : lv_has ls 3 [(0, .ref (ad 57)), (1, .ref (G.2.2.2 (310 + sk)))] := hl
  refine W_abs (fun Q hQ => ?_)
  generalize ([.ref (ad 57), .ref (G.2.2.2 (310 + sk))] : List Value).toArray = args at hT hQ ⊢
  have hz1 := hTx.2.1
  have hs6 := lenS_6 hsk
  refine lv_iconst (v := 0) hx hb (fk_get fk_cX9_howManyAlike_0 0 rfl) (by decide) ?_
  refine lv_istore_n (lv' := [(2, .int (0)), (0, .ref (ad 57)), (1, .ref (G.2.2.2 (310 + sk)))]) hx hb (fk_get fk_cX9_howManyAlike_0 1 rfl) rfl hl (by decide) rfl (fun ls hl => ?_)
  have lp_1 : ∀ (fu : Nat) (c : Nat) (ls : Array Slot),  (c ≤ lenS.getD sk 0) → (lenS.getD sk 0 < c + fu) → (∀ i, i < c → τ (pz + i) = (bytS.getD sk []).getD i 0) → lv_has ls 3 [(2, .int ((nI c))), (0, .ref (ad 57)), (1, .ref (G.2.2.2 (310 + sk)))] → W p l e ({ frames := 6, cells := 0, slots := 0, locals := 165 } : Room) s m args below meth c₀ s.heap [] 0 0 Q (F0 m 2 ls []) := by
    intro fu
    induction fu with
    | zero =>
      intro c ls hk hf hN hl
      exact absurd hf (by omega)
    | succ fu ih =>
      intro c ls hk hf hN hl
      refine lv_iload_n hx hb (fk_get fk_cX9_howManyAlike_0 2 rfl) rfl (lv_at hl 0 rfl) ?_
      refine lv_aload_n hx hb (fk_get fk_cX9_howManyAlike_0 3 rfl) rfl (lv_at hl 2 rfl) ?_
      refine vp_callSi (W.runV (As := []) (rest := [.int ((nI c))]) ⟨hx, hb, hml, hown, hT⟩ (c_jslen l G ad S s.heap.size (sk) (hsk) (hX)) (tV 0 hT m3_0 m3_1 m3_2 m1_19 m3_3 rfl rfl (by decide +kernel) ⟨Nat.le_of_ble_eq_true rfl, Nat.le_of_ble_eq_true rfl⟩) ⟨PcE_blind, vk_recv hE.2.2.2.2.1.1 hsk hS, PcE_of hP hK hD hE hS (fun q h => hFc q h) _⟩ rfl rfl hl.1 rfl (lv_room (Nat.le_of_ble_eq_true rfl)) (fk_get fk_cX9_howManyAlike_0 4 rfl) ⟨Nat.zero_le _, Nat.zero_le _⟩) (fun r_2 hw_3 => ?_)
      try dsimp only at hw_3
      subst hw_3
      refine lv_icmp_ge (tgt := 36) hx hb (fk_get fk_cX9_howManyAlike_0 5 rfl) (by decide) (fun c_4 => ?_) (fun c_4 => ?_)
      · have q_c_4 : (lenS.getD sk 0) ≤ c := ci_le (a := ((lenS.getD sk 0))) (b := c) (by omega) (by omega) c_4
        refine lv_aload_n hx hb (fk_get fk_cX9_howManyAlike_0 20 rfl) rfl (lv_at hl 2 rfl) ?_
        refine vp_callSi (W.runV (As := []) (rest := []) ⟨hx, hb, hml, hown, hT⟩ (c_jslen l G ad S s.heap.size (sk) (hsk) (hX)) (tV 0 hT m3_0 m3_1 m3_2 m1_19 m3_3 rfl rfl (by decide +kernel) ⟨Nat.le_of_ble_eq_true rfl, Nat.le_of_ble_eq_true rfl⟩) ⟨PcE_blind, vk_recv hE.2.2.2.2.1.1 hsk hS, PcE_of hP hK hD hE hS (fun q h => hFc q h) _⟩ rfl rfl hl.1 rfl (lv_room (Nat.le_of_ble_eq_true rfl)) (fk_get fk_cX9_howManyAlike_0 21 rfl) ⟨Nat.zero_le _, Nat.zero_le _⟩) (fun r_5 hw_6 => ?_)
        try dsimp only at hw_6
        subst hw_6
        subst hQ
        have hpost : ((nI (lenS.getD sk 0)) : Int32) = nI (alk (τ) (bytS.getD sk []) pz) := by
          first | exact congrArg nI (alk_is (n := c) (by rw [byt_len hsk]; omega) hN (fun _ => by assumption)).symm | exact congrArg nI (alk_is (n := lenS.getD sk 0) (by rw [byt_len hsk]; exact Nat.le_refl _) (fun i hi => hN i (by omega)) (fun q => absurd q (by rw [byt_len hsk]; omega))).symm
        exact W.iret (v := (nI (lenS.getD sk 0))) hx hb hr (fun t_ ht_ hW_ => ⟨(nI (lenS.getD sk 0)), rfl, hpost, ht_⟩) (fun q h => by cases h) (fk_get fk_cX9_howManyAlike_0 22 rfl)
      have q_c_4 : c < (lenS.getD sk 0) := ci_nle (a := ((lenS.getD sk 0))) (b := c) (by omega) (by omega) c_4
      refine lv_aload_n hx hb (fk_get fk_cX9_howManyAlike_0 6 rfl) rfl (lv_at hl 1 rfl) ?_
      refine lv_aload_n hx hb (fk_get fk_cX9_howManyAlike_0 7 rfl) rfl (lv_at hl 1 rfl) ?_
      refine va_get (D := G.1) (ci := 11) (v := .int (fF S 57 2)) (C := RX9) (T := TX9) (N := 9) hx hb hT inX9 hown hK hP 57 (ix_at (lt71 (by omega)) (cX_text G ad S)) rfl 2 (by decide) (hT _ m2_5) (fun _ h9 => h9) rfl (fk_get fk_cX9_howManyAlike_0 8 rfl) ?_
      rw [show (fF S 57 2) = (nI pz) from hp]
      refine lv_iload_n hx hb (fk_get fk_cX9_howManyAlike_0 9 rfl) rfl (lv_at hl 0 rfl) ?_
      refine lv_iadd hx hb (fk_get fk_cX9_howManyAlike_0 10 rfl) ?_
      rw [show ((nI pz) + (nI c)) = (nI (pz + c)) from (nI_add pz c)]
      refine vp_callSi (W.runV (As := [.int ((nI (pz + c)))]) (rest := []) ⟨hx, hb, hml, hown, hT⟩ (c_x9_sig l G ad S s.heap.size (z) (pz + c) (τ) (by first | assumption | exact hTx) (by first | assumption | omega) (hX)) (tV 1 hT m2_217 m2_219 mp_1 m1_12 m2_220 rfl rfl (by decide +kernel) ⟨Nat.le_of_ble_eq_true rfl, Nat.le_of_ble_eq_true rfl⟩) ⟨PcW_blind, va_recv hK hP (ci := 11) (q0 := 57) rfl (ix_at (lt71 (by omega)) (cX_text G ad S)), PcW_of hP hK hD _⟩ rfl rfl hl.1 rfl (lv_room (Nat.le_of_ble_eq_true rfl)) (fk_get fk_cX9_howManyAlike_0 11 rfl) ⟨Nat.zero_le _, Nat.zero_le _⟩) (fun r_7 hw_8 => ?_)
      try dsimp only at hw_8
      subst hw_8
      refine lv_aload_n hx hb (fk_get fk_cX9_howManyAlike_0 12 rfl) rfl (lv_at hl 2 rfl) ?_
      refine lv_iload_n hx hb (fk_get fk_cX9_howManyAlike_0 13 rfl) rfl (lv_at hl 0 rfl) ?_
      refine vp_callSi (W.runV (As := [.int ((nI c))]) (rest := [.int ((τ (pz + c)))]) ⟨hx, hb, hml, hown, hT⟩ (c_jcharAtE l G ad S s.heap.size (sk) (c) (hsk) (by first | assumption | omega) (hX)) (tV 1 hT m3_10 m3_11 m3_12 m1_19 m3_13 rfl rfl (by decide +kernel) ⟨Nat.le_of_ble_eq_true rfl, Nat.le_of_ble_eq_true rfl⟩) ⟨PcE_blind, vk_recv hE.2.2.2.2.1.1 hsk hS, PcE_of hP hK hD hE hS (fun q h => hFc q h) _⟩ rfl rfl hl.1 rfl (lv_room (Nat.le_of_ble_eq_true rfl)) (fk_get fk_cX9_howManyAlike_0 14 rfl) ⟨Nat.zero_le _, Nat.zero_le _⟩) (fun r_9 hw_10 => ?_)
      try dsimp only at hw_10
      subst hw_10
      refine lv_icmp_eq (tgt := 30) hx hb (fk_get fk_cX9_howManyAlike_0 15 rfl) (by decide) (fun c_11 => ?_) (fun c_11 => ?_)
      · refine lv_iinc (v := (nI (c + 1))) (lv' := [(2, .int ((nI (c + 1)))), (0, .ref (ad 57)), (1, .ref (G.2.2.2 (310 + sk)))]) hx hb (fk_get fk_cX9_howManyAlike_0 18 rfl) hl (k := 0) rfl ((nI_1 c)) (by decide) rfl (fun ls hl => ?_)
        refine lv_goto (tgt := 2) hx hb (fk_get fk_cX9_howManyAlike_0 19 rfl) (by decide) ?_
        exact ih (c + 1) ls (by omega) (by omega) (fun i hi => (Nat.lt_succ_iff_lt_or_eq.mp hi).elim (hN i) (fun e => by rw [e]; assumption)) (lv_sub hl [0, 1, 2] rfl)
      refine lv_iload_n hx hb (fk_get fk_cX9_howManyAlike_0 16 rfl) rfl (lv_at hl 0 rfl) ?_
      subst hQ
      have hpost : ((nI c) : Int32) = nI (alk (τ) (bytS.getD sk []) pz) := by
        first | exact congrArg nI (alk_is (n := c) (by rw [byt_len hsk]; omega) hN (fun _ => by assumption)).symm | exact congrArg nI (alk_is (n := lenS.getD sk 0) (by rw [byt_len hsk]; exact Nat.le_refl _) (fun i hi => hN i (by omega)) (fun q => absurd q (by rw [byt_len hsk]; omega))).symm
      exact W.iret (v := (nI c)) hx hb hr (fun t_ ht_ hW_ => ⟨(nI c), rfl, hpost, ht_⟩) (fun q h => by cases h) (fk_get fk_cX9_howManyAlike_0 17 rfl)
  exact lp_1 (lenS.getD sk 0 + 1) (0) ls (by omega) (by omega) (fun i hi => absurd hi (by omega)) (lv_sub hl [0, 1, 2] rfl)
theorem mx_n {a b : Nat} {r : Int32} (h : r = if nI a < nI b then nI b else nI a) (ha : a < 2 ^ 31) (hb : b < 2 ^ 31) : r = nI (max a b) := by
  rw [h]
  by_cases c : a < b
  · rw [if_pos (nI_lt c hb), Nat.max_eq_right (by omega)]
  · rw [if_neg (fun q => c (ci_lt ha hb q)), Nat.max_eq_left (by omega)]
def WdP (τ : Nat → Int32) (p : Nat) (r : Int32) (S' : FS) : Prop := fF S' 57 2 = nI (wrdP τ p).2 ∧ (((wrdP τ p).1 = none ∧ r = -1) ∨ ∃ w, w < 4 ∧ (wrdP τ p).1 = some w ∧ r = nI w)
theorem wrd_hit {τ : Nat → Int32} {p k c v : Nat} (h : wrdL τ p (k + 1) c v = wrdP τ p) (e : nI (alk τ (bytS.getD c []) p) = nI (lenS.getD c 0)) (ha : alk τ (bytS.getD c []) p < 2 ^ 31) (hl : lenS.getD c 0 < 2 ^ 31) : wrdP τ p = (some c, p + alk τ (bytS.getD c []) p) := by
  have e2 := (nI_eq ha hl).mp e
  rw [← h]
  unfold wrdL
  rw [if_pos e2, e2]
theorem wrd_go {τ : Nat → Int32} {p k c v : Nat} (h : wrdL τ p (k + 1) c v = wrdP τ p) (e : ¬ nI (alk τ (bytS.getD c []) p) = nI (lenS.getD c 0)) : wrdL τ p k (c + 1) (max v (alk τ (bytS.getD c []) p)) = wrdP τ p := by
  rw [← h]
  show _ = wrdL τ p (k + 1) c v
  conv => rhs; unfold wrdL
  rw [if_neg (fun q => e (by rw [q]))]
theorem byt_le {c : Nat} {τ : Nat → Int32} (p : Nat) (h : c < 6) : alk τ (bytS.getD c []) p ≤ 6 := by
  have h1 := alk_le τ (bytS.getD c []) p
  have h2 := byt_len h
  have h3 := lenS_6 h
  omega
set_option maxHeartbeats 800000 in
set_option maxRecDepth 100000 in
theorem c_x9_wordE (l : Launch) (G : GG) (ad : Nat → Nat) (S : FS) (sz : Nat) (z pz : Nat) (τ : Nat → Int32) (hTx : TXz S z τ) (hp : fF S 57 2 = nI pz) (hp1 : pz ≤ 200) (hX : XI S) : Met l yX9_readWord (Cond.code yX9_readWord cX9_readWord 5 (some .int) :: TBL) ({ frames := 7, cells := 0, slots := 0, locals := 191 } : Room) (PcE G (wX G ad S) sz [.ref (ad 57)]) (va_Qi (fun (r : Int32) (S' : FS) => XI S' ∧ Fr (fun j k => j = 57 ∧ k = 2) S S' ∧ WdP τ pz r S') (fun S' t => BW G (va_A (wX G ad S) sz) (wX G ad S') t) (va_A (wX G ad S) sz)) 0 0 (va_A (wX G ad S) sz) := by
  refine Met.ofW (cc := cX9_readWord) (maxL := 5) (ret := (some .int)) (by decide) rfl ?_
  intro p e s m args below meth c₀ s₁ B hml hv
  obtain ⟨rfl, hsz, hP, hK, hD0, hE⟩ := hv
  have hx := B.exec
  have hb := B.bytes
  have hr := B.returns
  have hT : ∀ w ∈ TBL, w.before ([.ref (ad 57)] : List Value).toArray s = true := fun w h => atoms_spec (ws := Cond.code yX9_readWord cX9_readWord 5 (some .int) :: TBL) B.pre w (List.mem_cons_of_mem _ h)
  have hown : s.vm.findClass "LittleMore$Text" = some m.cls := findClass_of_methodNamed B.named
  have hlocks := B.notSynchronized
  subst hsz
  have hD := hD0.self (sz := s.heap.size)
  generalize hAe : va_A (wX G ad S) s.heap.size = A at hD hE ⊢
  have hA : ∀ q : Nat, s.heap.size ≤ q → A q := fun q h => by rw [← hAe]; exact Or.inr h
  have hS : va_S A s.heap s.heap [] := va_S.rf
  have hP : va_P G.1 vwCl (wX G ad S) s.heap := hP
  have hl := lv_entry ([.ref (ad 57)]) (n := 5) (Nat.le_of_ble_eq_true rfl)
  rw [lg_entry_eq]
  generalize (lg_sl ([.ref (ad 57)]) ++ List.replicate (5 - (lg_sl ([.ref (ad 57)])).length) Slot.unset).toArray = ls at hl ⊢
  have hl : lv_has ls 5 [(0, .ref (ad 57))] := hl
  refine W_abs (fun Q hQ => ?_)
  generalize ([.ref (ad 57)] : List Value).toArray = args at hT hQ ⊢
  have hz1 := hTx.2.1
  refine lv_iconst (v := 0) hx hb (fk_get fk_cX9_readWord_0 0 rfl) (by decide) ?_
  refine lv_istore_n (lv' := [(1, .int (0)), (0, .ref (ad 57))]) hx hb (fk_get fk_cX9_readWord_0 1 rfl) rfl hl (by decide) rfl (fun ls hl => ?_)
  refine lv_iconst (v := 0) hx hb (fk_get fk_cX9_readWord_0 2 rfl) (by decide) ?_
  refine lv_istore_n (lv' := [(2, .int (0)), (1, .int (0)), (0, .ref (ad 57))]) hx hb (fk_get fk_cX9_readWord_0 3 rfl) rfl hl (by decide) rfl (fun ls hl => ?_)
  have lp_1 : ∀ (fu : Nat) (c v : Nat) (ls : Array Slot),  (c ≤ 4) → (4 < c + fu) → (v ≤ 6) → (wrdL (τ) pz (4 - c) c v = wrdP (τ) pz) → lv_has ls 5 [(2, .int ((nI c))), (1, .int ((nI v))), (0, .ref (ad 57))] → W p l e ({ frames := 7, cells := 0, slots := 0, locals := 191 } : Room) s m args below meth c₀ s.heap [] 0 0 Q (F0 m 4 ls []) := by
    intro fu
    induction fu with
    | zero =>
      intro c v ls hk hf hv hW hl
      exact absurd hf (by omega)
    | succ fu ih =>
      intro c v ls hk hf hv hW hl
      refine lv_iload_n hx hb (fk_get fk_cX9_readWord_0 4 rfl) rfl (lv_at hl 0 rfl) ?_
      refine lv_iconst (v := 4) hx hb (fk_get fk_cX9_readWord_0 5 rfl) (by decide) ?_
      refine lv_icmp_ge (tgt := 56) hx hb (fk_get fk_cX9_readWord_0 6 rfl) (by decide) (fun c_2 => ?_) (fun c_2 => ?_)
      · have q_c_2 : 4 ≤ c := ci_le (a := 4) (b := c) (by omega) (by omega) c_2
        refine lv_aload_n hx hb (fk_get fk_cX9_readWord_1 0 rfl) rfl (lv_at hl 2 rfl) ?_
        refine lv_dup hx hb (fk_get fk_cX9_readWord_1 1 rfl) rfl ?_
        refine va_get (D := G.1) (ci := 11) (v := .int (fF S 57 2)) (C := RX9) (T := TX9) (N := 9) hx hb hT inX9 hown hK hP 57 (ix_at (lt71 (by omega)) (cX_text G ad S)) rfl 2 (by decide) (hT _ m2_5) (fun _ h9 => h9) rfl (fk_get fk_cX9_readWord_1 2 rfl) ?_
        rw [show (fF S 57 2) = (nI pz) from hp]
        refine lv_iload_n hx hb (fk_get fk_cX9_readWord_1 3 rfl) rfl (lv_at hl 1 rfl) ?_
        refine lv_iadd hx hb (fk_get fk_cX9_readWord_1 4 rfl) ?_
        rw [show ((nI pz) + (nI v)) = (nI (pz + v)) from (nI_add _ _)]
        refine va_put (D := G.1) (ci := 11) (v := .int ((nI (pz + v)))) (ty := .int) (C := RX9) (T := TX9) (N := 9) hx hb hT inX9 tyX9 tyX9_ok nmX9 hown hK hP hD hS 57 (ix_at (lt71 (by omega)) (cX_text G ad S)) rfl 2 (by decide) (hT _ m2_5) (fun _ h9 => h9) rfl (by decide +kernel) rfl rfl (Nat.le_of_ble_eq_true rfl) (fk_get fk_cX9_readWord_1 5 rfl) (fun H locs hP hD hS => ?_)
        rw [pX_text_2 (S := S) ((nI (pz + v)))] at hP hD
        have hX_3 : XI (setF S 57 2 ((nI (pz + v)))) := XI.sF hX _ ⟨by omega, by omega, by omega, by omega, by omega, by omega, by omega, by omega⟩
        have hF_4 : Fr (fun j k => j = 57 ∧ k = 2) S (setF S 57 2 ((nI (pz + v)))) := Fr.sF (Fr.rf : Fr (fun j k => j = 57 ∧ k = 2) S S) (by omega)
        refine lv_iconst (v := (-1)) hx hb (fk_get fk_cX9_readWord_1 6 rfl) (by decide) ?_
        subst hQ
        have hpost : XI (setF S 57 2 ((nI (pz + v)))) ∧ Fr (fun j k => j = 57 ∧ k = 2) S (setF S 57 2 ((nI (pz + v)))) ∧ WdP τ pz ((-1) : Int32) (setF S 57 2 ((nI (pz + v)))) := by
          exact ⟨hX_3, hF_4, by first | exact ⟨by rw [wrd_hit (by rw [show (4 - (c + 1)) + 1 = 4 - c by omega]; exact hW) (by assumption) (by omega) (by have := lenS_6 (k := c) (by omega); omega)]; rfl, Or.inr ⟨c, by omega, by rw [wrd_hit (by rw [show (4 - (c + 1)) + 1 = 4 - c by omega]; exact hW) (by assumption) (by omega) (by have := lenS_6 (k := c) (by omega); omega)], rfl⟩⟩ | (have e4 : c = 4 := (by omega); subst e4; exact ⟨by rw [← hW]; rfl, Or.inl ⟨by rw [← hW]; rfl, rfl⟩⟩)⟩
        exact W.iret (v := (-1)) hx hb hr (fun t_ ht_ hW_ => ⟨⟨(-1), (setF S 57 2 ((nI (pz + v)))), rfl, hpost, by rw [ht_]; exact hP, va_K.moved hW_.alike hK, hD⟩, hS.F ht_⟩) hS.2.2 (fk_get fk_cX9_readWord_1 7 rfl)
      have q_c_2 : c < 4 := ci_nle (a := 4) (b := c) (by omega) (by omega) c_2
      refine lv_iload_n hx hb (fk_get fk_cX9_readWord_0 7 rfl) rfl (lv_at hl 0 rfl) ?_
      have hFc := va_self hD hS hA
      refine va_csq (W.runS (As := [.int ((nI c))]) (rest := []) ⟨hx, hb, hml, hown, hT⟩ (c_x9_nameE l G ad S s.heap.size (c) (by first | assumption | omega) (hX)) (tS 1 hT m2_229 m2_230 m1_12 m2_231 rfl rfl (by decide +kernel) ⟨Nat.le_of_ble_eq_true rfl, Nat.le_of_ble_eq_true rfl⟩) ⟨PcE_blind, PcE_of hP hK hD hE hS (fun q h => hFc q h) _⟩ rfl rfl hl.1 rfl (lv_room (Nat.le_of_ble_eq_true rfl)) (fk_get fk_cX9_readWord_0 8 rfl) ⟨Nat.zero_le _, Nat.zero_le _⟩) (fun r_5 hw_6 => ?_)
      try dsimp only at hw_6
      subst hw_6
      rw [show va_rf (some (G.2.2.2 (310 + c))) = .ref (G.2.2.2 (310 + c)) from rfl]
      refine lv_astore_n (lv' := [(3, .ref (G.2.2.2 (310 + c))), (2, .int ((nI c))), (1, .int ((nI v))), (0, .ref (ad 57))]) hx hb (fk_get fk_cX9_readWord_0 9 rfl) rfl hl (by decide) rfl (fun ls hl => ?_)
      refine lv_aload_n hx hb (fk_get fk_cX9_readWord_0 10 rfl) rfl (lv_at hl 3 rfl) ?_
      refine lv_aload_n hx hb (fk_get fk_cX9_readWord_0 11 rfl) rfl (lv_at hl 0 rfl) ?_
      have hFc := va_self hD hS hA
      refine vp_callSi (W.runV (As := [.ref (G.2.2.2 (310 + c))]) (rest := []) ⟨hx, hb, hml, hown, hT⟩ (c_x9_alikeE l G ad S s.heap.size (c) (z) (pz) (τ) ((show c < 6 by omega)) (by first | assumption | omega) (by first | assumption | omega) (by first | assumption | omega) (hX)) (tV 1 hT m2_236 m2_238 mp_4 m1_12 m2_239 rfl rfl (by decide +kernel) ⟨Nat.le_of_ble_eq_true rfl, Nat.le_of_ble_eq_true rfl⟩) ⟨PcE_blind, va_recv hK hP (ci := 11) (q0 := 57) rfl (ix_at (lt71 (by omega)) (cX_text G ad S)), PcE_of hP hK hD hE hS (fun q h => hFc q h) _⟩ rfl rfl hl.1 rfl (lv_room (Nat.le_of_ble_eq_true rfl)) (fk_get fk_cX9_readWord_0 12 rfl) ⟨Nat.zero_le _, Nat.zero_le _⟩) (fun r_7 hw_8 => ?_)
      try dsimp only at hw_8
      subst hw_8
      have hal := byt_le (c := c) (τ := τ) pz (by omega)
      refine lv_istore (lv' := [(4, .int ((nI (alk (τ) (bytS.getD c []) pz)))), (3, .ref (G.2.2.2 (310 + c))), (2, .int ((nI c))), (1, .int ((nI v))), (0, .ref (ad 57))]) hx hb (fk_get fk_cX9_readWord_0 13 rfl) hl (by decide) rfl (fun ls hl => ?_)
      refine lv_iload hx hb (fk_get fk_cX9_readWord_0 14 rfl) (lv_at hl 0 rfl) ?_
      refine lv_aload_n hx hb (fk_get fk_cX9_readWord_0 15 rfl) rfl (lv_at hl 1 rfl) ?_
      have hFc := va_self hD hS hA
      refine vp_callSi (W.runV (As := []) (rest := [.int ((nI (alk (τ) (bytS.getD c []) pz)))]) ⟨hx, hb, hml, hown, hT⟩ (c_jslen l G ad S s.heap.size (c) ((show c < 6 by omega)) (hX)) (tV 0 hT m3_0 m3_1 m3_2 m1_19 m3_3 rfl rfl (by decide +kernel) ⟨Nat.le_of_ble_eq_true rfl, Nat.le_of_ble_eq_true rfl⟩) ⟨PcE_blind, vk_recv hE.2.2.2.2.1.1 (show c < 6 by omega) hS, PcE_of hP hK hD hE hS (fun q h => hFc q h) _⟩ rfl rfl hl.1 rfl (lv_room (Nat.le_of_ble_eq_true rfl)) (fk_get fk_cX9_readWord_0 16 rfl) ⟨Nat.zero_le _, Nat.zero_le _⟩) (fun r_9 hw_10 => ?_)
      try dsimp only at hw_10
      subst hw_10
      refine lv_icmp_ne (tgt := 43) hx hb (fk_get fk_cX9_readWord_0 17 rfl) (by decide) (fun c_11 => ?_) (fun c_11 => ?_)
      · refine lv_iload_n hx hb (fk_get fk_cX9_readWord_0 26 rfl) rfl (lv_at hl 3 rfl) ?_
        refine lv_iload hx hb (fk_get fk_cX9_readWord_0 27 rfl) (lv_at hl 0 rfl) ?_
        refine vp_callSi (W.runS (As := [.int ((nI v)), .int ((nI (alk (τ) (bytS.getD c []) pz)))]) (rest := []) ⟨hx, hb, hml, hown, hT⟩ (c_jmax l ((nI v)) ((nI (alk (τ) (bytS.getD c []) pz))) ) (tS 2 hT m3_48 m2_139 m1_18 m2_140 rfl rfl (by decide +kernel) ⟨Nat.le_of_ble_eq_true rfl, Nat.le_of_ble_eq_true rfl⟩) ⟨PcN_blind, PcN_of _ _ _⟩ rfl rfl hl.1 rfl (lv_room (Nat.le_of_ble_eq_true rfl)) (fk_get fk_cX9_readWord_0 28 rfl) ⟨Nat.zero_le _, Nat.zero_le _⟩) (fun r_12 hw_13 => ?_)
        try dsimp only at hw_13
        have e_ := mx_n hw_13 (by omega) (by omega)
        subst e_
        refine lv_istore_n (lv' := [(1, .int ((nI (max v (alk (τ) (bytS.getD c []) pz))))), (4, .int ((nI (alk (τ) (bytS.getD c []) pz)))), (3, .ref (G.2.2.2 (310 + c))), (2, .int ((nI c))), (0, .ref (ad 57))]) hx hb (fk_get fk_cX9_readWord_0 29 rfl) rfl hl (by decide) rfl (fun ls hl => ?_)
        refine lv_iinc (v := (nI (c + 1))) (lv' := [(2, .int ((nI (c + 1)))), (1, .int ((nI (max v (alk (τ) (bytS.getD c []) pz))))), (4, .int ((nI (alk (τ) (bytS.getD c []) pz)))), (3, .ref (G.2.2.2 (310 + c))), (0, .ref (ad 57))]) hx hb (fk_get fk_cX9_readWord_0 30 rfl) hl (k := 3) rfl ((nI_1 c)) (by decide) rfl (fun ls hl => ?_)
        refine lv_goto (tgt := 4) hx hb (fk_get fk_cX9_readWord_0 31 rfl) (by decide) ?_
        exact ih (c + 1) (max v (alk (τ) (bytS.getD c []) pz)) ls (by omega) (by omega) (by have := byt_le (c := c) (τ := τ) pz (by omega); omega) (by have hW2 := hW; rw [show 4 - c = (4 - (c + 1)) + 1 by omega] at hW2; exact wrd_go hW2 (by assumption)) (lv_sub hl [0, 1, 4] rfl)
      refine lv_aload_n hx hb (fk_get fk_cX9_readWord_0 18 rfl) rfl (lv_at hl 4 rfl) ?_
      refine lv_dup hx hb (fk_get fk_cX9_readWord_0 19 rfl) rfl ?_
      refine va_get (D := G.1) (ci := 11) (v := .int (fF S 57 2)) (C := RX9) (T := TX9) (N := 9) hx hb hT inX9 hown hK hP 57 (ix_at (lt71 (by omega)) (cX_text G ad S)) rfl 2 (by decide) (hT _ m2_5) (fun _ h9 => h9) rfl (fk_get fk_cX9_readWord_0 20 rfl) ?_
      rw [show (fF S 57 2) = (nI pz) from hp]
      refine lv_iload hx hb (fk_get fk_cX9_readWord_0 21 rfl) (lv_at hl 0 rfl) ?_
      refine lv_iadd hx hb (fk_get fk_cX9_readWord_0 22 rfl) ?_
      rw [show ((nI pz) + (nI (alk (τ) (bytS.getD c []) pz))) = (nI (pz + (alk (τ) (bytS.getD c []) pz))) from (nI_add _ _)]
      refine va_put (D := G.1) (ci := 11) (v := .int ((nI (pz + (alk (τ) (bytS.getD c []) pz))))) (ty := .int) (C := RX9) (T := TX9) (N := 9) hx hb hT inX9 tyX9 tyX9_ok nmX9 hown hK hP hD hS 57 (ix_at (lt71 (by omega)) (cX_text G ad S)) rfl 2 (by decide) (hT _ m2_5) (fun _ h9 => h9) rfl (by decide +kernel) rfl rfl (Nat.le_of_ble_eq_true rfl) (fk_get fk_cX9_readWord_0 23 rfl) (fun H locs hP hD hS => ?_)
      rw [pX_text_2 (S := S) ((nI (pz + (alk (τ) (bytS.getD c []) pz))))] at hP hD
      have hX_14 : XI (setF S 57 2 ((nI (pz + (alk (τ) (bytS.getD c []) pz))))) := XI.sF hX _ ⟨by omega, by omega, by omega, by omega, by omega, by omega, by omega, by omega⟩
      have hF_15 : Fr (fun j k => j = 57 ∧ k = 2) S (setF S 57 2 ((nI (pz + (alk (τ) (bytS.getD c []) pz))))) := Fr.sF (Fr.rf : Fr (fun j k => j = 57 ∧ k = 2) S S) (by omega)
      refine lv_iload_n hx hb (fk_get fk_cX9_readWord_0 24 rfl) rfl (lv_at hl 2 rfl) ?_
      subst hQ
      have hpost : XI (setF S 57 2 ((nI (pz + (alk (τ) (bytS.getD c []) pz))))) ∧ Fr (fun j k => j = 57 ∧ k = 2) S (setF S 57 2 ((nI (pz + (alk (τ) (bytS.getD c []) pz))))) ∧ WdP τ pz ((nI c) : Int32) (setF S 57 2 ((nI (pz + (alk (τ) (bytS.getD c []) pz))))) := by
        exact ⟨hX_14, hF_15, by first | exact ⟨by rw [wrd_hit (by rw [show (4 - (c + 1)) + 1 = 4 - c by omega]; exact hW) (by assumption) (by omega) (by have := lenS_6 (k := c) (by omega); omega)]; rfl, Or.inr ⟨c, by omega, by rw [wrd_hit (by rw [show (4 - (c + 1)) + 1 = 4 - c by omega]; exact hW) (by assumption) (by omega) (by have := lenS_6 (k := c) (by omega); omega)], rfl⟩⟩ | (have e4 : c = 4 := (by omega); subst e4; exact ⟨by rw [← hW]; rfl, Or.inl ⟨by rw [← hW]; rfl, rfl⟩⟩)⟩
      exact W.iret (v := (nI c)) hx hb hr (fun t_ ht_ hW_ => ⟨⟨(nI c), (setF S 57 2 ((nI (pz + (alk (τ) (bytS.getD c []) pz))))), rfl, hpost, by rw [ht_]; exact hP, va_K.moved hW_.alike hK, hD⟩, hS.F ht_⟩) hS.2.2 (fk_get fk_cX9_readWord_0 25 rfl)
  exact lp_1 (5) (0) (0) ls (by omega) (by omega) (by omega) (rfl) (lv_sub hl [0, 1, 2] rfl)
