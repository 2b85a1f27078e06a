theorem wd_r {τ : Nat → Int32} {p : Nat} {r : Int32} {S' : FS} (h : WdP τ p r S') : r = wcd (wrdP τ p) := by
  obtain ⟨-, ⟨a, b⟩ | ⟨w, -, a, b⟩⟩ := h
  · unfold wcd
    rw [a]
    exact b
  · unfold wcd
    rw [a]
    exact b
theorem wd_n {τ : Nat → Int32} {p : Nat} {r : Int32} {S' : FS} (h : WdP τ p r S') (n : r = -1) : (wrdP τ p).1 = none := by
  obtain ⟨-, ⟨a, b⟩ | ⟨w, hw, a, b⟩⟩ := h
  · exact a
  · rw [b] at n
    rcases (show w = 0 ∨ w = 1 ∨ w = 2 ∨ w = 3 by omega) with rfl | rfl | rfl | rfl <;> exact absurd n (by decide)
theorem wd_y {τ : Nat → Int32} {p : Nat} {r : Int32} {S' : FS} (h : WdP τ p r S') (n : ¬ r = -1) : ∃ w, w < 4 ∧ (wrdP τ p).1 = some w ∧ wcd (wrdP τ p) = nI w := by
  obtain ⟨-, ⟨a, b⟩ | ⟨w, hw, a, b⟩⟩ := h
  · exact absurd b n
  · refine ⟨w, hw, a, ?_⟩
    unfold wcd
    rw [a]
theorem TXz.wrd {S : FS} {z p : Nat} {τ : Nat → Int32} (h : TXz S z τ) (hp : p ≤ z) : p ≤ (wrdP τ p).2 ∧ (wrdP τ p).2 ≤ z ∧ ∀ w, (wrdP τ p).1 = some w → w < 4 ∧ p + 4 ≤ (wrdP τ p).2 := by rw [← h.2.2.2]; exact wrd_good hp
theorem TXz.cl {S : FS} {z p : Nat} {τ : Nat → Int32} (h : TXz S z τ) (hp : p ≤ z) : p ≤ (clP cdA τ p).2 ∧ (clP cdA τ p).2 ≤ z ∧ ∀ c, (clP cdA τ p).1 = some c → p + (ccd c).length + 1 ≤ (clP cdA τ p).2 := by rw [← h.2.2.2]; exact cl_good hp
def ClP (τ : Nat → Int32) (p c : Nat) (r : Int32) (S S' : FS) : Prop := fF S' 57 2 = nI (clP cdA τ p).2 ∧ (((clP cdA τ p).1 = none ∧ r = 0) ∨ ∃ x, (clP cdA τ p).1 = some x ∧ r = 1 ∧ CdP S S' c (ccd x) ∧ fF S' 57 3 = (if x.1 = 2 then x.2.1 else fF S 57 3) ∧ fF S' 57 4 = (if x.1 = 3 then x.2.1 else fF S 57 4))
theorem cl_0 {τ : Nat → Int32} {p q c : Nat} {S S' : FS} (h : clP cdA τ p = (none, q)) (e : fF S' 57 2 = nI q) : ClP τ p c 0 S S' := by
  unfold ClP
  rw [h]
  exact ⟨e, Or.inl ⟨rfl, rfl⟩⟩
theorem cl_1 {τ : Nat → Int32} {p q c w : Nat} {n : Int32} {o : Option (Nat × Cds)} {S S' : FS} (h : clP cdA τ p = (some (w, n, o), q)) (e : fF S' 57 2 = nI q) (k : CdP S S' c (ccd (w, n, o))) (e3 : fF S' 57 3 = (if w = 2 then n else fF S 57 3)) (e4 : fF S' 57 4 = (if w = 3 then n else fF S 57 4)) : ClP τ p c 1 S S' := by
  unfold ClP
  rw [h]
  exact ⟨e, Or.inr ⟨_, rfl, rfl, k, e3, e4⟩⟩
theorem nI0 {w : Nat} {x : Int32} (hw : w < 4) (e : x = nI w) (h : x = 0) : w = 0 := nm_k hw (by decide) (e.symm.trans h)
theorem nI2 {w : Nat} {x : Int32} (hw : w < 4) (e : x = nI w) (h : x = 2) : w = 2 := nm_k hw (by decide) (e.symm.trans h)
theorem nI3 {w : Nat} {x : Int32} (hw : w < 4) (e : x = nI w) (h : x = 3) : w = 3 := nm_k hw (by decide) (e.symm.trans h)
theorem nIl {w : Nat} {x : Int32} (hw : w < 4) (e : x = nI w) (h2 : ¬ x = 2) (h3 : ¬ x = 3) : ¬ 2 ≤ w := fun q => by
  rcases (show w = 2 ∨ w = 3 by omega) with rfl | rfl
  · exact h2 e
  · exact h3 e
section CL
variable {α : Type} {A : Al α} {τ : Nat → Int32} {p w : Nat} {n : Int32}
theorem clp_n (e : (wrdP τ p).1 = none) : clP A τ p = (none, (wrdP τ p).2) := by
  unfold clP
  exact thn_n e
theorem clp_s (e : (wrdP τ p).1 = some w) (h : ¬ τ (wrdP τ p).2 = 32) : clP A τ p = (none, (wrdP τ p).2) := by
  unfold clP
  rw [thn_s e]
  exact if_neg h
theorem clp_m (e : (wrdP τ p).1 = some w) (h : τ (wrdP τ p).2 = 32) (e2 : (numP τ ((wrdP τ p).2 + 1)).1 = none) : clP A τ p = (none, (numP τ ((wrdP τ p).2 + 1)).2) := by
  unfold clP
  rw [thn_s e]
  exact (if_pos h).trans (thn_n e2)
theorem clp_2 (e : (wrdP τ p).1 = some w) (h : τ (wrdP τ p).2 = 32) (e2 : (numP τ ((wrdP τ p).2 + 1)).1 = some n) (hw : 2 ≤ w) : clP A τ p = (some (w, n, none), (numP τ ((wrdP τ p).2 + 1)).2) := by
  unfold clP
  rw [thn_s e]
  exact (if_pos h).trans ((thn_s e2).trans (if_pos hw))
theorem clp_b (e : (wrdP τ p).1 = some w) (h : τ (wrdP τ p).2 = 32) (e2 : (numP τ ((wrdP τ p).2 + 1)).1 = some n) (hw : ¬ 2 ≤ w) (k : ¬ τ (numP τ ((wrdP τ p).2 + 1)).2 = 32) : clP A τ p = (none, (numP τ ((wrdP τ p).2 + 1)).2) := by
  unfold clP
  rw [thn_s e]
  exact (if_pos h).trans ((thn_s e2).trans ((if_neg hw).trans (if_neg k)))
theorem clp_e (e : (wrdP τ p).1 = some w) (h : τ (wrdP τ p).2 = 32) (e2 : (numP τ ((wrdP τ p).2 + 1)).1 = some n) (hw : ¬ 2 ≤ w) (k : τ (numP τ ((wrdP τ p).2 + 1)).2 = 32) : clP A τ p = thn (anyP A (oneP A τ 4) τ ((numP τ ((wrdP τ p).2 + 1)).2 + 1)) (fun v q3 => (some (w, n, some ((numP τ ((wrdP τ p).2 + 1)).2 + 1, v)), q3)) := by
  unfold clP
  rw [thn_s e]
  exact (if_pos h).trans ((thn_s e2).trans ((if_neg hw).trans (if_pos k)))
theorem cl_price {c : Nat} {S S' : FS} (e1 : (wrdP τ p).1 = some w) (hw : w < 4) (ew : wcd (wrdP τ p) = nI w) (hc : wcd (wrdP τ p) = 2) (h : τ (wrdP τ p).2 = 32) (e2 : (numP τ ((wrdP τ p).2 + 1)).1 = some n) (hp : fF S' 57 2 = nI (numP τ ((wrdP τ p).2 + 1)).2) (k : CdP S S' c []) (h3 : fF S' 57 3 = n) (h4 : fF S' 57 4 = fF S 57 4) : ClP τ p c 1 S S' := by
  have e := nI2 hw ew hc
  exact cl_1 (clp_2 e1 h e2 (by omega)) hp k (by rw [if_pos e]; exact h3) (by rw [if_neg (by omega)]; exact h4)
theorem cl_learn {c : Nat} {S S' : FS} (e1 : (wrdP τ p).1 = some w) (hw : w < 4) (ew : wcd (wrdP τ p) = nI w) (hc : wcd (wrdP τ p) = 3) (h : τ (wrdP τ p).2 = 32) (e2 : (numP τ ((wrdP τ p).2 + 1)).1 = some n) (hp : fF S' 57 2 = nI (numP τ ((wrdP τ p).2 + 1)).2) (k : CdP S S' c []) (h3 : fF S' 57 3 = fF S 57 3) (h4 : fF S' 57 4 = n) : ClP τ p c 1 S S' := by
  have e := nI3 hw ew hc
  exact cl_1 (clp_2 e1 h e2 (by omega)) hp k (by rw [if_neg (by omega)]; exact h3) (by rw [if_pos e]; exact h4)
theorem cl_space {c : Nat} {S S' : FS} (e1 : (wrdP τ p).1 = some w) (hw : w < 4) (ew : wcd (wrdP τ p) = nI w) (h2 : ¬ wcd (wrdP τ p) = 2) (h3 : ¬ wcd (wrdP τ p) = 3) (h : τ (wrdP τ p).2 = 32) (e2 : (numP τ ((wrdP τ p).2 + 1)).1 = some n) (k : ¬ τ (numP τ ((wrdP τ p).2 + 1)).2 = 32) (hp : fF S' 57 2 = nI (numP τ ((wrdP τ p).2 + 1)).2) : ClP τ p c 0 S S' := cl_0 (clp_b e1 h e2 (nIl hw ew h2 h3) k) hp
theorem cl_expn {c : Nat} {S S' : FS} (e1 : (wrdP τ p).1 = some w) (hw : w < 4) (ew : wcd (wrdP τ p) = nI w) (h2 : ¬ wcd (wrdP τ p) = 2) (h3 : ¬ wcd (wrdP τ p) = 3) (h : τ (wrdP τ p).2 = 32) (e2 : (numP τ ((wrdP τ p).2 + 1)).1 = some n) (k : τ (numP τ ((wrdP τ p).2 + 1)).2 = 32) (e3 : (anyP cdA (oneP cdA τ 4) τ ((numP τ ((wrdP τ p).2 + 1)).2 + 1)).1 = none) (hp : fF S' 57 2 = nI (anyP cdA (oneP cdA τ 4) τ ((numP τ ((wrdP τ p).2 + 1)).2 + 1)).2) : ClP τ p c 0 S S' := cl_0 ((clp_e e1 h e2 (nIl hw ew h2 h3) k).trans (thn_n e3)) hp
theorem cl_exps {c : Nat} {L : Cds} {v : Int32} {S S' : FS} (e1 : (wrdP τ p).1 = some w) (hw : w < 4) (ew : wcd (wrdP τ p) = nI w) (h2 : ¬ wcd (wrdP τ p) = 2) (h3 : ¬ wcd (wrdP τ p) = 3) (h : τ (wrdP τ p).2 = 32) (e2 : (numP τ ((wrdP τ p).2 + 1)).1 = some n) (k : τ (numP τ ((wrdP τ p).2 + 1)).2 = 32) (e3 : (anyP cdA (oneP cdA τ 4) τ ((numP τ ((wrdP τ p).2 + 1)).2 + 1)).1 = some L) (hv : (wcd (wrdP τ p) = 0 ∧ v = n) ∨ (¬ wcd (wrdP τ p) = 0 ∧ v = -n)) (hp : fF S' 57 2 = nI (anyP cdA (oneP cdA τ 4) τ ((numP τ ((wrdP τ p).2 + 1)).2 + 1)).2) (K : CdP S S' c (L ++ [(21, v)])) (k3 : fF S' 57 3 = fF S 57 3) (k4 : fF S' 57 4 = fF S 57 4) : ClP τ p c 1 S S' := by
  have hl := nIl hw ew h2 h3
  have ev : v = if w = 0 then n else -n := by
    rcases hv with ⟨a, b⟩ | ⟨a, b⟩
    · rw [if_pos (nI0 hw ew a)]
      exact b
    · rw [if_neg (fun q => a (by rw [ew, q]; rfl))]
      exact b
  subst ev
  exact cl_1 ((clp_e e1 h e2 hl k).trans (thn_s e3)) hp K (by rw [if_neg (by omega)]; exact k3) (by rw [if_neg (by omega)]; exact k4)
end CL
set_option maxHeartbeats 800000 in
set_option maxRecDepth 100000 in
theorem c_x9_clauseE (l : Launch) (G : GG) (ad : Nat → Nat) (S : FS) (sz : Nat) (z pz c : Nat) (τ : Nat → Int32) (hTx : TXz S z τ) (hp : fF S 57 2 = nI pz) (hpz : pz ≤ z) (hc : fF S 57 7 = nI c) (hcp : c ≤ pz) (hX : XI S) : Met l yX9_readClause (Cond.code yX9_readClause cX9_readClause 3 (some .boolean) :: TBL) ({ frames := 22, cells := 0, slots := 0, locals := 593 } : Room) (PcE G (wX G ad S) sz [.ref (ad 57)]) (va_Qi (fun (r : Int32) (S' : FS) => XI S' ∧ Fr (fun j k => (j = 57 ∧ (k = 2 ∨ k = 3 ∨ k = 4 ∨ k = 7 ∨ k = 8)) ∨ ((j = 59 ∨ j = 60) ∧ k = 99)) S S' ∧ ClP τ pz c r S S') (fun S' t => BW G (va_A (wX G ad S) sz) (wX G ad S') t) (va_A (wX G ad S) sz)) 0 0 (va_A (wX G ad S) sz) := by
  refine Met.ofW (cc := cX9_readClause) (maxL := 3) (ret := (some .boolean)) (by decide) rfl ?_
  intro p e s m args below meth c₀ s₁ B hml hv
  obtain ⟨rfl, hsz, hP, hK, hD0, hE⟩ := hv
  have hx := B.exec
  have hb := B.bytes
  have hr := B.returns
  have hT : ∀ w ∈ TBL, w.before ([.ref (ad 57)] : List Value).toArray s = true := fun w h => atoms_spec (ws := Cond.code yX9_readClause cX9_readClause 3 (some .boolean) :: TBL) B.pre w (List.mem_cons_of_mem _ h)
  have hown : s.vm.findClass "LittleMore$Text" = some m.cls := findClass_of_methodNamed B.named
  have hlocks := B.notSynchronized
  subst hsz
  have hD := hD0.self (sz := s.heap.size)
  generalize hAe : va_A (wX G ad S) s.heap.size = A at hD hE ⊢
  have hA : ∀ q : Nat, s.heap.size ≤ q → A q := fun q h => by rw [← hAe]; exact Or.inr h
  have hS : va_S A s.heap s.heap [] := va_S.rf
  have hP : va_P G.1 vwCl (wX G ad S) s.heap := hP
  have hl := lv_entry ([.ref (ad 57)]) (n := 3) (Nat.le_of_ble_eq_true rfl)
  rw [lg_entry_eq]
  generalize (lg_sl ([.ref (ad 57)]) ++ List.replicate (3 - (lg_sl ([.ref (ad 57)])).length) Slot.unset).toArray = ls at hl ⊢
  have hl : lv_has ls 3 [(0, .ref (ad 57))] := hl
  refine W_abs (fun Q hQ => ?_)
  generalize ([.ref (ad 57)] : List Value).toArray = args at hT hQ ⊢
  have hz1 := hTx.2.1
  refine lv_aload_n hx hb (fk_get fk_cX9_readClause_0 0 rfl) rfl (lv_at hl 0 rfl) ?_
  have hFc := va_self hD hS hA
  refine va_calli (va_runV (As := []) (rest := []) ⟨hx, hb, hml, hown, hT⟩ (c_x9_wordE l G ad S s.heap.size (z) (pz) (τ) (by first | assumption | omega) (by first | assumption | omega) (by first | assumption | omega) (hX)) (tV 0 hT m2_225 m2_227 mp_3 m1_12 m2_228 rfl rfl (by decide +kernel) ⟨Nat.le_of_ble_eq_true rfl, Nat.le_of_ble_eq_true rfl⟩) ⟨PcE_blind, va_recv hK hP (ci := 11) (q0 := 57) rfl (ix_at (lt71 (by omega)) (cX_text G ad S)), PcE_of hP hK hD hE hS (fun q h => hFc q h) _⟩ rfl rfl hl.1 rfl (lv_room (Nat.le_of_ble_eq_true rfl)) (fk_get fk_cX9_readClause_0 1 rfl) ⟨Nat.zero_le _, Nat.zero_le _⟩) hS (fun q _ h => hFc q h) hFc (fun r_1 S_3 t_ H locs ht_ hvm_ hw_2 hB_ hz_ hk_ hS => ?_)
  obtain ⟨hP, -, hD1_⟩ := hB_
  rw [ht_] at hP
  have hD : va_D A (wX G ad S_3) := hD1_.weaken (fun k q _ h => hFc q.1 h)
  try dsimp only at hw_2
  obtain ⟨hX_4, hF_5_, hw_2⟩ := hw_2
  have hF_5 : Fr (fun j k => (j = 57 ∧ (k = 2 ∨ k = 3 ∨ k = 4 ∨ k = 7 ∨ k = 8)) ∨ ((j = 59 ∨ j = 60) ∧ k = 99)) S S_3 := Fr.trans (Fr.rf : Fr (fun j k => (j = 57 ∧ (k = 2 ∨ k = 3 ∨ k = 4 ∨ k = 7 ∨ k = 8)) ∨ ((j = 59 ∨ j = 60) ∧ k = 99)) S S) (Fr.mono hF_5_ (fun j k h => by omega))
  have hK1 := hw_2
  have hf1 := hF_5_
  have hT1 := hTx.fr hF_5_ (fun q => by omega) (fun q => by omega)
  have hc1 := (Fr.F hF_5_ (j := 57) (k := 7) (lt71 (by omega)) (fun q => by omega)).trans hc
  obtain ⟨g1, g2, g3⟩ := hTx.wrd hpz
  have hp1 := hK1.1
  have er1 := wd_r hK1
  subst er1
  refine lv_istore_n (lv' := [(1, .int ((wcd (wrdP τ pz)))), (0, .ref (ad 57))]) hx hb (fk_get fk_cX9_readClause_0 2 rfl) rfl hl (by decide) rfl (fun ls hl => ?_)
  refine lv_iload_n hx hb (fk_get fk_cX9_readClause_0 3 rfl) rfl (lv_at hl 0 rfl) ?_
  refine lv_iconst (v := (-1)) hx hb (fk_get fk_cX9_readClause_0 4 rfl) (by decide) ?_
  refine lv_icmp_eq (tgt := 26) hx hb (fk_get fk_cX9_readClause_0 5 rfl) (by decide) (fun c_6 => ?_) (fun c_6 => ?_)
  · have e1 := wd_n hK1 c_6
    refine lv_iconst (v := 0) hx hb (fk_get fk_cX9_readClause_0 13 rfl) (by decide) ?_
    subst hQ
    have hpost : XI S_3 ∧ Fr (fun j k => (j = 57 ∧ (k = 2 ∨ k = 3 ∨ k = 4 ∨ k = 7 ∨ k = 8)) ∨ ((j = 59 ∨ j = 60) ∧ k = 99)) S S_3 ∧ ClP τ pz c (0 : Int32) S S_3 := by
      exact ⟨hX_4, hF_5, by first | exact cl_0 (clp_n e1) hp1 | exact cl_0 (clp_s e1 n13) hp13 | exact cl_0 (clp_m e1 h13 e20) hp20⟩
    exact W.zret (v := 0) hx hb hr rfl (fun t_ ht_ hW_ => ⟨⟨0, S_3, rfl, hpost, by rw [ht_]; exact hP, va_K.moved hW_.alike hK, hD⟩, hS.F ht_⟩) hS.2.2 (fk_get fk_cX9_readClause_0 14 rfl)
  obtain ⟨w1, hw1, e1, ew1⟩ := wd_y hK1 c_6
  obtain ⟨-, g4⟩ := g3 w1 e1
  refine lv_aload_n hx hb (fk_get fk_cX9_readClause_0 6 rfl) rfl (lv_at hl 1 rfl) ?_
  refine lv_bipush (v := 32) hx hb (fk_get fk_cX9_readClause_0 7 rfl) (by decide) ?_
  have hFc := va_self hD hS hA
  refine va_calli (va_runV (As := [.int (32)]) (rest := []) ⟨hx, hb, hml, hown, hT⟩ (c_x9_takesE l G ad S_3 H.size (z) ((wrdP τ pz).2) (32) (τ) (by first | assumption | omega) (by first | assumption | omega) (by first | assumption | omega) (hX_4)) (tV 1 hT m2_213 m2_215 mp_0 m1_12 m2_216 rfl rfl (by decide +kernel) ⟨Nat.le_of_ble_eq_true rfl, Nat.le_of_ble_eq_true rfl⟩) ⟨PcW_blind, va_recv hK hP (ci := 11) (q0 := 57) rfl (ix_at (lt71 (by omega)) (cX_text G ad S_3)), PcW_of hP hK hD _⟩ rfl rfl hl.1 rfl (lv_room (Nat.le_of_ble_eq_true rfl)) (fk_get fk_cX9_readClause_0 8 rfl) ⟨Nat.zero_le _, Nat.zero_le _⟩) hS (fun q _ h => hFc q h) hFc (fun r_7 S_9 t_ H locs ht_ hvm_ hw_8 hB_ hz_ hk_ hS => ?_)
  obtain ⟨hP, -, hD1_⟩ := hB_
  rw [ht_] at hP
  have hD : va_D A (wX G ad S_9) := hD1_.weaken (fun k q _ h => hFc q.1 h)
  try dsimp only at hw_8
  obtain ⟨hX_10, hF_11_, hw_8⟩ := hw_8
  have hF_11 : Fr (fun j k => (j = 57 ∧ (k = 2 ∨ k = 3 ∨ k = 4 ∨ k = 7 ∨ k = 8)) ∨ ((j = 59 ∨ j = 60) ∧ k = 99)) S S_9 := Fr.trans hF_5 (Fr.mono hF_11_ (fun j k h => by omega))
  have hK13 := hw_8
  have hf13 := hF_11_
  have hT13 := hT1.fr hF_11_ (fun q => by omega) (fun q => by omega)
  have hc13 := (Fr.F hF_11_ (j := 57) (k := 7) (lt71 (by omega)) (fun q => by omega)).trans hc1
  refine lv_if_eq (tgt := 26) hx hb (fk_get fk_cX9_readClause_0 9 rfl) (by decide) (fun c_12 => ?_) (fun c_12 => ?_)
  · obtain ⟨n13, hp13⟩ := tk_n hK13 c_12
    refine lv_iconst (v := 0) hx hb (fk_get fk_cX9_readClause_0 13 rfl) (by decide) ?_
    subst hQ
    have hpost : XI S_9 ∧ Fr (fun j k => (j = 57 ∧ (k = 2 ∨ k = 3 ∨ k = 4 ∨ k = 7 ∨ k = 8)) ∨ ((j = 59 ∨ j = 60) ∧ k = 99)) S S_9 ∧ ClP τ pz c (0 : Int32) S S_9 := by
      exact ⟨hX_10, hF_11, by first | exact cl_0 (clp_n e1) hp1 | exact cl_0 (clp_s e1 n13) hp13 | exact cl_0 (clp_m e1 h13 e20) hp20⟩
    exact W.zret (v := 0) hx hb hr rfl (fun t_ ht_ hW_ => ⟨⟨0, S_9, rfl, hpost, by rw [ht_]; exact hP, va_K.moved hW_.alike hK, hD⟩, hS.F ht_⟩) hS.2.2 (fk_get fk_cX9_readClause_0 14 rfl)
  obtain ⟨h13, hp13⟩ := tk_y hK13 c_12
  have hz13 := hTx.lt h13 (by decide)
  refine lv_aload_n hx hb (fk_get fk_cX9_readClause_0 10 rfl) rfl (lv_at hl 1 rfl) ?_
  have hFc := va_self hD hS hA
  refine va_calli (va_runV (As := []) (rest := []) ⟨hx, hb, hml, hown, hT⟩ (c_x9_numE l G ad S_9 H.size (z) ((wrdP τ pz).2 + 1) (τ) (by first | assumption | omega) (by first | assumption | omega) (by first | assumption | omega) (hX_10)) (tV 0 hT m3_49 m3_51 mp_5 m1_12 m3_52 rfl rfl (by decide +kernel) ⟨Nat.le_of_ble_eq_true rfl, Nat.le_of_ble_eq_true rfl⟩) ⟨PcW_blind, va_recv hK hP (ci := 11) (q0 := 57) rfl (ix_at (lt71 (by omega)) (cX_text G ad S_9)), PcW_of hP hK hD _⟩ rfl rfl hl.1 rfl (lv_room (Nat.le_of_ble_eq_true rfl)) (fk_get fk_cX9_readClause_0 11 rfl) ⟨Nat.zero_le _, Nat.zero_le _⟩) hS (fun q _ h => hFc q h) hFc (fun r_13 S_15 t_ H locs ht_ hvm_ hw_14 hB_ hz_ hk_ hS => ?_)
  obtain ⟨hP, -, hD1_⟩ := hB_
  rw [ht_] at hP
  have hD : va_D A (wX G ad S_15) := hD1_.weaken (fun k q _ h => hFc q.1 h)
  try dsimp only at hw_14
  obtain ⟨hX_16, hF_17_, hw_14⟩ := hw_14
  have hF_17 : Fr (fun j k => (j = 57 ∧ (k = 2 ∨ k = 3 ∨ k = 4 ∨ k = 7 ∨ k = 8)) ∨ ((j = 59 ∨ j = 60) ∧ k = 99)) S S_15 := Fr.trans hF_11 (Fr.mono hF_17_ (fun j k h => by omega))
  have hK20 := hw_14
  have hf20 := hF_17_
  have hT20 := hT13.fr hF_17_ (fun q => by omega) (fun q => by omega)
  have hc20 := (Fr.F hF_17_ (j := 57) (k := 7) (lt71 (by omega)) (fun q => by omega)).trans hc13
  refine lv_if_ne (tgt := 28) hx hb (fk_get fk_cX9_readClause_0 12 rfl) (by decide) (fun c_18 => ?_) (fun c_18 => ?_)
  · obtain ⟨v20, e20, hp20, hv20⟩ := nu_y hK20 c_18
    obtain ⟨k1, k2, k3⟩ := hTx.num (p := (wrdP τ pz).2 + 1) (by omega)
    have k4 := k3 (by rw [e20]; exact fun q => by cases q)
    refine lv_aload_n hx hb (fk_get fk_cX9_readClause_0 15 rfl) rfl (lv_at hl 1 rfl) ?_
    refine va_get (D := G.1) (ci := 11) (v := .int (fF S_15 57 8)) (C := RX9) (T := TX9) (N := 9) hx hb hT inX9 hown hK hP 57 (ix_at (lt71 (by omega)) (cX_text G ad S_15)) rfl 8 (by decide) (hT _ m2_17) (fun _ h9 => h9) rfl (fk_get fk_cX9_readClause_0 16 rfl) ?_
    rw [show (fF S_15 57 8) = v20 from hv20]
    refine lv_istore_n (lv' := [(2, .int (v20)), (1, .int ((wcd (wrdP τ pz)))), (0, .ref (ad 57))]) hx hb (fk_get fk_cX9_readClause_0 17 rfl) rfl hl (by decide) rfl (fun ls hl => ?_)
    refine lv_iload_n hx hb (fk_get fk_cX9_readClause_0 18 rfl) rfl (lv_at hl 1 rfl) ?_
    by_cases c_19 : (wcd (wrdP τ pz)) = (2 : Int32)
    · refine lv_lookup (off := 26) (tgt := 60) hx hb (dk_get dk_cX9_readClause_0 0 rfl) (by decide) (by rw [c_19]; decide) (by decide) ?_
      refine lv_aload_n hx hb (fk_get fk_cX9_readClause_0 19 rfl) rfl (lv_at hl 2 rfl) ?_
      refine lv_iload_n hx hb (fk_get fk_cX9_readClause_0 20 rfl) rfl (lv_at hl 0 rfl) ?_
      refine va_put (D := G.1) (ci := 11) (v := .int (v20)) (ty := .int) (C := RX9) (T := TX9) (N := 9) hx hb hT inX9 tyX9 tyX9_ok nmX9 hown hK hP hD hS 57 (ix_at (lt71 (by omega)) (cX_text G ad S_15)) rfl 3 (by decide) (hT _ m2_7) (fun _ h9 => h9) rfl (by decide +kernel) rfl rfl (Nat.le_of_ble_eq_true rfl) (fk_get fk_cX9_readClause_0 21 rfl) (fun H locs hP hD hS => ?_)
      rw [pX_text_3 (S := S_15) (v20)] at hP hD
      have hX_20 : XI (setF S_15 57 3 (v20)) := XI.sF hX_16 _ ⟨by omega, by omega, by omega, by omega, by omega, by omega, by omega, by omega⟩
      have hF_21 : Fr (fun j k => (j = 57 ∧ (k = 2 ∨ k = 3 ∨ k = 4 ∨ k = 7 ∨ k = 8)) ∨ ((j = 59 ∨ j = 60) ∧ k = 99)) S (setF S_15 57 3 (v20)) := Fr.sF hF_17 (by omega)
      refine lv_iconst (v := 1) hx hb (fk_get fk_cX9_readClause_0 22 rfl) (by decide) ?_
      subst hQ
      have hpost : XI (setF S_15 57 3 (v20)) ∧ Fr (fun j k => (j = 57 ∧ (k = 2 ∨ k = 3 ∨ k = 4 ∨ k = 7 ∨ k = 8)) ∨ ((j = 59 ∨ j = 60) ∧ k = 99)) S (setF S_15 57 3 (v20)) ∧ ClP τ pz c (1 : Int32) S (setF S_15 57 3 (v20)) := by
        exact ⟨hX_20, hF_21, cl_price e1 hw1 ew1 (by assumption) h13 e20 hp20 (((((CdP.nil hc).keep hf1 (fun q => by omega) (fun q => by omega) (fun q => by omega)).keep hf13 (fun q => by omega) (fun q => by omega) (fun q => by omega)).keep hf20 (fun q => by omega) (fun q => by omega) (fun q => by omega)) : CdP S _ c []) rfl ((hf20.F (lt71 (by omega)) (fun q => by omega)).trans (((hf13.F (lt71 (by omega)) (fun q => by omega)).trans (((hf1.F (lt71 (by omega)) (fun q => by omega)).trans (rfl))))))⟩
      exact W.zret (v := 1) hx hb hr rfl (fun t_ ht_ hW_ => ⟨⟨1, (setF S_15 57 3 (v20)), rfl, hpost, by rw [ht_]; exact hP, va_K.moved hW_.alike hK, hD⟩, hS.F ht_⟩) hS.2.2 (fk_get fk_cX9_readClause_0 23 rfl)
    by_cases c_22 : (wcd (wrdP τ pz)) = (3 : Int32)
    · refine lv_lookup (off := 33) (tgt := 67) hx hb (dk_get dk_cX9_readClause_0 0 rfl) (by decide) (by rw [c_22]; decide) (by decide) ?_
      refine lv_aload_n hx hb (fk_get fk_cX9_readClause_0 24 rfl) rfl (lv_at hl 2 rfl) ?_
      refine lv_iload_n hx hb (fk_get fk_cX9_readClause_0 25 rfl) rfl (lv_at hl 0 rfl) ?_
      refine va_put (D := G.1) (ci := 11) (v := .int (v20)) (ty := .int) (C := RX9) (T := TX9) (N := 9) hx hb hT inX9 tyX9 tyX9_ok nmX9 hown hK hP hD hS 57 (ix_at (lt71 (by omega)) (cX_text G ad S_15)) rfl 4 (by decide) (hT _ m2_9) (fun _ h9 => h9) rfl (by decide +kernel) rfl rfl (Nat.le_of_ble_eq_true rfl) (fk_get fk_cX9_readClause_0 26 rfl) (fun H locs hP hD hS => ?_)
      rw [pX_text_4 (S := S_15) (v20)] at hP hD
      have hX_23 : XI (setF S_15 57 4 (v20)) := XI.sF hX_16 _ ⟨by omega, by omega, by omega, by omega, by omega, by omega, by omega, by omega⟩
      have hF_24 : Fr (fun j k => (j = 57 ∧ (k = 2 ∨ k = 3 ∨ k = 4 ∨ k = 7 ∨ k = 8)) ∨ ((j = 59 ∨ j = 60) ∧ k = 99)) S (setF S_15 57 4 (v20)) := Fr.sF hF_17 (by omega)
      refine lv_iconst (v := 1) hx hb (fk_get fk_cX9_readClause_0 27 rfl) (by decide) ?_
      subst hQ
      have hpost : XI (setF S_15 57 4 (v20)) ∧ Fr (fun j k => (j = 57 ∧ (k = 2 ∨ k = 3 ∨ k = 4 ∨ k = 7 ∨ k = 8)) ∨ ((j = 59 ∨ j = 60) ∧ k = 99)) S (setF S_15 57 4 (v20)) ∧ ClP τ pz c (1 : Int32) S (setF S_15 57 4 (v20)) := by
        exact ⟨hX_23, hF_24, cl_learn e1 hw1 ew1 (by assumption) h13 e20 hp20 (((((CdP.nil hc).keep hf1 (fun q => by omega) (fun q => by omega) (fun q => by omega)).keep hf13 (fun q => by omega) (fun q => by omega) (fun q => by omega)).keep hf20 (fun q => by omega) (fun q => by omega) (fun q => by omega)) : CdP S _ c []) ((hf20.F (lt71 (by omega)) (fun q => by omega)).trans (((hf13.F (lt71 (by omega)) (fun q => by omega)).trans (((hf1.F (lt71 (by omega)) (fun q => by omega)).trans (rfl)))))) rfl⟩
      exact W.zret (v := 1) hx hb hr rfl (fun t_ ht_ hW_ => ⟨⟨1, (setF S_15 57 4 (v20)), rfl, hpost, by rw [ht_]; exact hP, va_K.moved hW_.alike hK, hD⟩, hS.F ht_⟩) hS.2.2 (fk_get fk_cX9_readClause_0 28 rfl)
    refine lv_lookup (off := 40) (tgt := 74) hx hb (dk_get dk_cX9_readClause_0 0 rfl) (by decide) (by rw [lv_osw c_19 (by decide), lv_osw c_22 (by decide)]; rfl) (by decide) ?_
    refine lv_aload_n hx hb (fk_get fk_cX9_readClause_0 29 rfl) rfl (lv_at hl 2 rfl) ?_
    refine lv_bipush (v := 32) hx hb (fk_get fk_cX9_readClause_0 30 rfl) (by decide) ?_
    have hFc := va_self hD hS hA
    refine va_calli (va_runV (As := [.int (32)]) (rest := []) ⟨hx, hb, hml, hown, hT⟩ (c_x9_takesE l G ad S_15 H.size (z) ((numP τ ((wrdP τ pz).2 + 1)).2) (32) (τ) (by first | assumption | omega) (by first | assumption | omega) (by first | assumption | omega) (hX_16)) (tV 1 hT m2_213 m2_215 mp_0 m1_12 m2_216 rfl rfl (by decide +kernel) ⟨Nat.le_of_ble_eq_true rfl, Nat.le_of_ble_eq_true rfl⟩) ⟨PcW_blind, va_recv hK hP (ci := 11) (q0 := 57) rfl (ix_at (lt71 (by omega)) (cX_text G ad S_15)), PcW_of hP hK hD _⟩ rfl rfl hl.1 rfl (lv_room (Nat.le_of_ble_eq_true rfl)) (fk_get fk_cX9_readClause_0 31 rfl) ⟨Nat.zero_le _, Nat.zero_le _⟩) hS (fun q _ h => hFc q h) hFc (fun r_25 S_27 t_ H locs ht_ hvm_ hw_26 hB_ hz_ hk_ hS => ?_)
    obtain ⟨hP, -, hD1_⟩ := hB_
    rw [ht_] at hP
    have hD : va_D A (wX G ad S_27) := hD1_.weaken (fun k q _ h => hFc q.1 h)
    try dsimp only at hw_26
    obtain ⟨hX_28, hF_29_, hw_26⟩ := hw_26
    have hF_29 : Fr (fun j k => (j = 57 ∧ (k = 2 ∨ k = 3 ∨ k = 4 ∨ k = 7 ∨ k = 8)) ∨ ((j = 59 ∨ j = 60) ∧ k = 99)) S S_27 := Fr.trans hF_17 (Fr.mono hF_29_ (fun j k h => by omega))
    have hK77 := hw_26
    have hf77 := hF_29_
    have hT77 := hT20.fr hF_29_ (fun q => by omega) (fun q => by omega)
    have hc77 := (Fr.F hF_29_ (j := 57) (k := 7) (lt71 (by omega)) (fun q => by omega)).trans hc20
    refine lv_if_eq (tgt := 114) hx hb (fk_get fk_cX9_readClause_1 0 rfl) (by decide) (fun c_30 => ?_) (fun c_30 => ?_)
    · obtain ⟨n77, hp77⟩ := tk_n hK77 c_30
      refine lv_iconst (v := 0) hx hb (fk_get fk_cX9_readClause_1 17 rfl) (by decide) ?_
      subst hQ
      have hpost : XI S_27 ∧ Fr (fun j k => (j = 57 ∧ (k = 2 ∨ k = 3 ∨ k = 4 ∨ k = 7 ∨ k = 8)) ∨ ((j = 59 ∨ j = 60) ∧ k = 99)) S S_27 ∧ ClP τ pz c (0 : Int32) S S_27 := by
        exact ⟨hX_28, hF_29, by first | exact cl_exps e1 hw1 ew1 (by assumption) (by assumption) h13 e20 h77 e85 (by first | exact Or.inl ⟨by assumption, rfl⟩ | exact Or.inr ⟨by assumption, rfl⟩) hp104 (((((hC85.base hf77 (fun q => by omega) (fun q => by omega)).base hf20 (fun q => by omega) (fun q => by omega)).base hf13 (fun q => by omega) (fun q => by omega)).base hf1 (fun q => by omega) (fun q => by omega)).put hP104) ((hf104.F (lt71 (by omega)) (fun q => by omega)).trans (((hf85.F (lt71 (by omega)) (fun q => by omega)).trans (((hf77.F (lt71 (by omega)) (fun q => by omega)).trans (((hf20.F (lt71 (by omega)) (fun q => by omega)).trans (((hf13.F (lt71 (by omega)) (fun q => by omega)).trans (((hf1.F (lt71 (by omega)) (fun q => by omega)).trans (rfl)))))))))))) ((hf104.F (lt71 (by omega)) (fun q => by omega)).trans (((hf85.F (lt71 (by omega)) (fun q => by omega)).trans (((hf77.F (lt71 (by omega)) (fun q => by omega)).trans (((hf20.F (lt71 (by omega)) (fun q => by omega)).trans (((hf13.F (lt71 (by omega)) (fun q => by omega)).trans (((hf1.F (lt71 (by omega)) (fun q => by omega)).trans (rfl)))))))))))) | exact cl_expn e1 hw1 ew1 (by assumption) (by assumption) h13 e20 h77 e85 hp85 | exact cl_space e1 hw1 ew1 (by assumption) (by assumption) h13 e20 n77 hp77⟩
      exact W.zret (v := 0) hx hb hr rfl (fun t_ ht_ hW_ => ⟨⟨0, S_27, rfl, hpost, by rw [ht_]; exact hP, va_K.moved hW_.alike hK, hD⟩, hS.F ht_⟩) hS.2.2 (fk_get fk_cX9_readClause_1 18 rfl)
    obtain ⟨h77, hp77⟩ := tk_y hK77 c_30
    have hz77 := hTx.lt h77 (by decide)
    refine lv_aload_n hx hb (fk_get fk_cX9_readClause_1 1 rfl) rfl (lv_at hl 2 rfl) ?_
    refine lv_iconst (v := 0) hx hb (fk_get fk_cX9_readClause_1 2 rfl) (by decide) ?_
    have hFc := va_self hD hS hA
    refine va_calli (va_runV (As := [.int (0)]) (rest := []) ⟨hx, hb, hml, hown, hT⟩ (c_x9_any0E l G ad S_27 H.size (z) ((numP τ ((wrdP τ pz).2 + 1)).2 + 1) (c) (τ) (by first | assumption | omega) (by first | assumption | omega) (by first | assumption | omega) (by first | assumption | omega) (by first | assumption | omega) (hX_28)) (tV 1 hT m3_56 m3_58 mp_6 m1_12 m3_59 rfl rfl (by decide +kernel) ⟨Nat.le_of_ble_eq_true rfl, Nat.le_of_ble_eq_true rfl⟩) ⟨PcE_blind, va_recv hK hP (ci := 11) (q0 := 57) rfl (ix_at (lt71 (by omega)) (cX_text G ad S_27)), PcE_of hP hK hD hE hS (fun q h => hFc q h) _⟩ rfl rfl hl.1 rfl (lv_room (Nat.le_of_ble_eq_true rfl)) (fk_get fk_cX9_readClause_1 3 rfl) ⟨Nat.zero_le _, Nat.zero_le _⟩) hS (fun q _ h => hFc q h) hFc (fun r_31 S_33 t_ H locs ht_ hvm_ hw_32 hB_ hz_ hk_ hS => ?_)
    obtain ⟨hP, -, hD1_⟩ := hB_
    rw [ht_] at hP
    have hD : va_D A (wX G ad S_33) := hD1_.weaken (fun k q _ h => hFc q.1 h)
    try dsimp only at hw_32
    obtain ⟨hX_34, hF_35_, hw_32⟩ := hw_32
    have hF_35 : Fr (fun j k => (j = 57 ∧ (k = 2 ∨ k = 3 ∨ k = 4 ∨ k = 7 ∨ k = 8)) ∨ ((j = 59 ∨ j = 60) ∧ k = 99)) S S_33 := Fr.trans hF_29 (Fr.mono hF_35_ (fun j k h => by omega))
    have hK85 := hw_32
    have hf85 := hF_35_
    refine lv_if_eq (tgt := 114) hx hb (fk_get fk_cX9_readClause_1 4 rfl) (by decide) (fun c_36 => ?_) (fun c_36 => ?_)
    · obtain ⟨e85, hp85⟩ := rd_n hK85 c_36
      refine lv_iconst (v := 0) hx hb (fk_get fk_cX9_readClause_1 17 rfl) (by decide) ?_
      subst hQ
      have hpost : XI S_33 ∧ Fr (fun j k => (j = 57 ∧ (k = 2 ∨ k = 3 ∨ k = 4 ∨ k = 7 ∨ k = 8)) ∨ ((j = 59 ∨ j = 60) ∧ k = 99)) S S_33 ∧ ClP τ pz c (0 : Int32) S S_33 := by
        exact ⟨hX_34, hF_35, by first | exact cl_exps e1 hw1 ew1 (by assumption) (by assumption) h13 e20 h77 e85 (by first | exact Or.inl ⟨by assumption, rfl⟩ | exact Or.inr ⟨by assumption, rfl⟩) hp104 (((((hC85.base hf77 (fun q => by omega) (fun q => by omega)).base hf20 (fun q => by omega) (fun q => by omega)).base hf13 (fun q => by omega) (fun q => by omega)).base hf1 (fun q => by omega) (fun q => by omega)).put hP104) ((hf104.F (lt71 (by omega)) (fun q => by omega)).trans (((hf85.F (lt71 (by omega)) (fun q => by omega)).trans (((hf77.F (lt71 (by omega)) (fun q => by omega)).trans (((hf20.F (lt71 (by omega)) (fun q => by omega)).trans (((hf13.F (lt71 (by omega)) (fun q => by omega)).trans (((hf1.F (lt71 (by omega)) (fun q => by omega)).trans (rfl)))))))))))) ((hf104.F (lt71 (by omega)) (fun q => by omega)).trans (((hf85.F (lt71 (by omega)) (fun q => by omega)).trans (((hf77.F (lt71 (by omega)) (fun q => by omega)).trans (((hf20.F (lt71 (by omega)) (fun q => by omega)).trans (((hf13.F (lt71 (by omega)) (fun q => by omega)).trans (((hf1.F (lt71 (by omega)) (fun q => by omega)).trans (rfl)))))))))))) | exact cl_expn e1 hw1 ew1 (by assumption) (by assumption) h13 e20 h77 e85 hp85 | exact cl_space e1 hw1 ew1 (by assumption) (by assumption) h13 e20 n77 hp77⟩
      exact W.zret (v := 0) hx hb hr rfl (fun t_ ht_ hW_ => ⟨⟨0, S_33, rfl, hpost, by rw [ht_]; exact hP, va_K.moved hW_.alike hK, hD⟩, hS.F ht_⟩) hS.2.2 (fk_get fk_cX9_readClause_1 18 rfl)
    obtain ⟨L85, e85, hp85, hC85⟩ := rd_y hK85 c_36
    obtain ⟨j1, j2, j3⟩ := hTx.any 4 ((numP τ ((wrdP τ pz).2 + 1)).2 + 1) (by omega)
    have j4 := j3 L85 e85
    have hc85 := hC85.1
    refine lv_aload_n hx hb (fk_get fk_cX9_readClause_1 5 rfl) rfl (lv_at hl 2 rfl) ?_
    refine lv_bipush (v := 21) hx hb (fk_get fk_cX9_readClause_1 6 rfl) (by decide) ?_
    refine lv_iload_n hx hb (fk_get fk_cX9_readClause_1 7 rfl) rfl (lv_at hl 1 rfl) ?_
    refine lv_if_ne (tgt := 102) hx hb (fk_get fk_cX9_readClause_1 8 rfl) (by decide) (fun c_37 => ?_) (fun c_37 => ?_)
    · refine lv_iload_n hx hb (fk_get fk_cX9_readClause_1 11 rfl) rfl (lv_at hl 0 rfl) ?_
      refine lv_ineg hx hb (fk_get fk_cX9_readClause_1 12 rfl) ?_
      have hFc := va_self hD hS hA
      refine va_calli (va_runV (As := [.int (21), .int ((-v20))]) (rest := []) ⟨hx, hb, hml, hown, hT⟩ (c_x9_putE l G ad S_33 H.size (c + L85.length) (21) ((-v20)) (by first | assumption | omega) (by first | assumption | omega) (hX_34)) (tV 2 hT m3_68 m3_70 mp_9 m1_12 m3_71 rfl rfl (by decide +kernel) ⟨Nat.le_of_ble_eq_true rfl, Nat.le_of_ble_eq_true rfl⟩) ⟨PcW_blind, va_recv hK hP (ci := 11) (q0 := 57) rfl (ix_at (lt71 (by omega)) (cX_text G ad S_33)), PcW_of hP hK hD _⟩ rfl rfl hl.1 rfl (lv_room (Nat.le_of_ble_eq_true rfl)) (fk_get fk_cX9_readClause_1 13 rfl) ⟨Nat.zero_le _, Nat.zero_le _⟩) hS (fun q _ h => hFc q h) hFc (fun r_38 S_40 t_ H locs ht_ hvm_ hw_39 hB_ hz_ hk_ hS => ?_)
      obtain ⟨hP, -, hD1_⟩ := hB_
      rw [ht_] at hP
      have hD : va_D A (wX G ad S_40) := hD1_.weaken (fun k q _ h => hFc q.1 h)
      try dsimp only at hw_39
      obtain ⟨hX_41, hF_42_, hw_39⟩ := hw_39
      have hF_42 : Fr (fun j k => (j = 57 ∧ (k = 2 ∨ k = 3 ∨ k = 4 ∨ k = 7 ∨ k = 8)) ∨ ((j = 59 ∨ j = 60) ∧ k = 99)) S S_40 := Fr.trans hF_35 (Fr.mono hF_42_ (fun j k h => by omega))
      obtain ⟨e_, hP104⟩ := hw_39
      subst e_
      have hp104 := (Fr.F hF_42_ (j := 57) (k := 2) (lt71 (by omega)) (fun q => by omega)).trans hp85
      have hf104 := hF_42_
      refine lv_if_eq (tgt := 114) hx hb (fk_get fk_cX9_readClause_1 14 rfl) (by decide) (fun c_43 => absurd c_43 ((by decide))) (fun _ => ?_)
      refine lv_iconst (v := 1) hx hb (fk_get fk_cX9_readClause_1 15 rfl) (by decide) ?_
      refine lv_goto (tgt := 115) hx hb (fk_get fk_cX9_readClause_1 16 rfl) (by decide) ?_
      subst hQ
      have hpost : XI S_40 ∧ Fr (fun j k => (j = 57 ∧ (k = 2 ∨ k = 3 ∨ k = 4 ∨ k = 7 ∨ k = 8)) ∨ ((j = 59 ∨ j = 60) ∧ k = 99)) S S_40 ∧ ClP τ pz c (1 : Int32) S S_40 := by
        exact ⟨hX_41, hF_42, by first | exact cl_exps e1 hw1 ew1 (by assumption) (by assumption) h13 e20 h77 e85 (by first | exact Or.inl ⟨by assumption, rfl⟩ | exact Or.inr ⟨by assumption, rfl⟩) hp104 (((((hC85.base hf77 (fun q => by omega) (fun q => by omega)).base hf20 (fun q => by omega) (fun q => by omega)).base hf13 (fun q => by omega) (fun q => by omega)).base hf1 (fun q => by omega) (fun q => by omega)).put hP104) ((hf104.F (lt71 (by omega)) (fun q => by omega)).trans (((hf85.F (lt71 (by omega)) (fun q => by omega)).trans (((hf77.F (lt71 (by omega)) (fun q => by omega)).trans (((hf20.F (lt71 (by omega)) (fun q => by omega)).trans (((hf13.F (lt71 (by omega)) (fun q => by omega)).trans (((hf1.F (lt71 (by omega)) (fun q => by omega)).trans (rfl)))))))))))) ((hf104.F (lt71 (by omega)) (fun q => by omega)).trans (((hf85.F (lt71 (by omega)) (fun q => by omega)).trans (((hf77.F (lt71 (by omega)) (fun q => by omega)).trans (((hf20.F (lt71 (by omega)) (fun q => by omega)).trans (((hf13.F (lt71 (by omega)) (fun q => by omega)).trans (((hf1.F (lt71 (by omega)) (fun q => by omega)).trans (rfl)))))))))))) | exact cl_expn e1 hw1 ew1 (by assumption) (by assumption) h13 e20 h77 e85 hp85 | exact cl_space e1 hw1 ew1 (by assumption) (by assumption) h13 e20 n77 hp77⟩
      exact W.zret (v := 1) hx hb hr rfl (fun t_ ht_ hW_ => ⟨⟨1, S_40, rfl, hpost, by rw [ht_]; exact hP, va_K.moved hW_.alike hK, hD⟩, hS.F ht_⟩) hS.2.2 (fk_get fk_cX9_readClause_1 18 rfl)
    refine lv_iload_n hx hb (fk_get fk_cX9_readClause_1 9 rfl) rfl (lv_at hl 0 rfl) ?_
    refine lv_goto (tgt := 104) hx hb (fk_get fk_cX9_readClause_1 10 rfl) (by decide) ?_
    have hFc := va_self hD hS hA
    refine va_calli (va_runV (As := [.int (21), .int (v20)]) (rest := []) ⟨hx, hb, hml, hown, hT⟩ (c_x9_putE l G ad S_33 H.size (c + L85.length) (21) (v20) (by first | assumption | omega) (by first | assumption | omega) (hX_34)) (tV 2 hT m3_68 m3_70 mp_9 m1_12 m3_71 rfl rfl (by decide +kernel) ⟨Nat.le_of_ble_eq_true rfl, Nat.le_of_ble_eq_true rfl⟩) ⟨PcW_blind, va_recv hK hP (ci := 11) (q0 := 57) rfl (ix_at (lt71 (by omega)) (cX_text G ad S_33)), PcW_of hP hK hD _⟩ rfl rfl hl.1 rfl (lv_room (Nat.le_of_ble_eq_true rfl)) (fk_get fk_cX9_readClause_1 13 rfl) ⟨Nat.zero_le _, Nat.zero_le _⟩) hS (fun q _ h => hFc q h) hFc (fun r_44 S_46 t_ H locs ht_ hvm_ hw_45 hB_ hz_ hk_ hS => ?_)
    obtain ⟨hP, -, hD1_⟩ := hB_
    rw [ht_] at hP
    have hD : va_D A (wX G ad S_46) := hD1_.weaken (fun k q _ h => hFc q.1 h)
    try dsimp only at hw_45
    obtain ⟨hX_47, hF_48_, hw_45⟩ := hw_45
    have hF_48 : Fr (fun j k => (j = 57 ∧ (k = 2 ∨ k = 3 ∨ k = 4 ∨ k = 7 ∨ k = 8)) ∨ ((j = 59 ∨ j = 60) ∧ k = 99)) S S_46 := Fr.trans hF_35 (Fr.mono hF_48_ (fun j k h => by omega))
    obtain ⟨e_, hP104⟩ := hw_45
    subst e_
    have hp104 := (Fr.F hF_48_ (j := 57) (k := 2) (lt71 (by omega)) (fun q => by omega)).trans hp85
    have hf104 := hF_48_
    refine lv_if_eq (tgt := 114) hx hb (fk_get fk_cX9_readClause_1 14 rfl) (by decide) (fun c_49 => absurd c_49 ((by decide))) (fun _ => ?_)
    refine lv_iconst (v := 1) hx hb (fk_get fk_cX9_readClause_1 15 rfl) (by decide) ?_
    refine lv_goto (tgt := 115) hx hb (fk_get fk_cX9_readClause_1 16 rfl) (by decide) ?_
    subst hQ
    have hpost : XI S_46 ∧ Fr (fun j k => (j = 57 ∧ (k = 2 ∨ k = 3 ∨ k = 4 ∨ k = 7 ∨ k = 8)) ∨ ((j = 59 ∨ j = 60) ∧ k = 99)) S S_46 ∧ ClP τ pz c (1 : Int32) S S_46 := by
      exact ⟨hX_47, hF_48, by first | exact cl_exps e1 hw1 ew1 (by assumption) (by assumption) h13 e20 h77 e85 (by first | exact Or.inl ⟨by assumption, rfl⟩ | exact Or.inr ⟨by assumption, rfl⟩) hp104 (((((hC85.base hf77 (fun q => by omega) (fun q => by omega)).base hf20 (fun q => by omega) (fun q => by omega)).base hf13 (fun q => by omega) (fun q => by omega)).base hf1 (fun q => by omega) (fun q => by omega)).put hP104) ((hf104.F (lt71 (by omega)) (fun q => by omega)).trans (((hf85.F (lt71 (by omega)) (fun q => by omega)).trans (((hf77.F (lt71 (by omega)) (fun q => by omega)).trans (((hf20.F (lt71 (by omega)) (fun q => by omega)).trans (((hf13.F (lt71 (by omega)) (fun q => by omega)).trans (((hf1.F (lt71 (by omega)) (fun q => by omega)).trans (rfl)))))))))))) ((hf104.F (lt71 (by omega)) (fun q => by omega)).trans (((hf85.F (lt71 (by omega)) (fun q => by omega)).trans (((hf77.F (lt71 (by omega)) (fun q => by omega)).trans (((hf20.F (lt71 (by omega)) (fun q => by omega)).trans (((hf13.F (lt71 (by omega)) (fun q => by omega)).trans (((hf1.F (lt71 (by omega)) (fun q => by omega)).trans (rfl)))))))))))) | exact cl_expn e1 hw1 ew1 (by assumption) (by assumption) h13 e20 h77 e85 hp85 | exact cl_space e1 hw1 ew1 (by assumption) (by assumption) h13 e20 n77 hp77⟩
    exact W.zret (v := 1) hx hb hr rfl (fun t_ ht_ hW_ => ⟨⟨1, S_46, rfl, hpost, by rw [ht_]; exact hP, va_K.moved hW_.alike hK, hD⟩, hS.F ht_⟩) hS.2.2 (fk_get fk_cX9_readClause_1 18 rfl)
  obtain ⟨e20, hp20⟩ := nu_n hK20 (by assumption)
  refine lv_iconst (v := 0) hx hb (fk_get fk_cX9_readClause_0 13 rfl) (by decide) ?_
  subst hQ
  have hpost : XI S_15 ∧ Fr (fun j k => (j = 57 ∧ (k = 2 ∨ k = 3 ∨ k = 4 ∨ k = 7 ∨ k = 8)) ∨ ((j = 59 ∨ j = 60) ∧ k = 99)) S S_15 ∧ ClP τ pz c (0 : Int32) S S_15 := by
    exact ⟨hX_16, hF_17, by first | exact cl_0 (clp_n e1) hp1 | exact cl_0 (clp_s e1 n13) hp13 | exact cl_0 (clp_m e1 h13 e20) hp20⟩
  exact W.zret (v := 0) hx hb hr rfl (fun t_ ht_ hW_ => ⟨⟨0, S_15, rfl, hpost, by rw [ht_]; exact hP, va_K.moved hW_.alike hK, hD⟩, hS.F ht_⟩) hS.2.2 (fk_get fk_cX9_readClause_0 14 rfl)
theorem cpI {P : Nat → Nat → Prop} {S T : FS} {ia p cz k : Nat} {g : Nat → Int32} (hF : Fr P S (setA T p (va_cpy (fA T ia) g (0 : Int32).toNatClampNeg (0 : Int32).toNatClampNeg (nI cz : Int32).toNatClampNeg))) (n : ¬ P ia 99) (hia : ia < 71) (h71 : 71 ≤ p) (hk : k < cz) (hc : cz ≤ 100) : fA (setA T p (va_cpy (fA T ia) g (0 : Int32).toNatClampNeg (0 : Int32).toNatClampNeg (nI cz : Int32).toNatClampNeg)) p k = fA S ia k := by
  have e := hF.A (j := ia) (lt71 hia) n
  rw [fA_setA, if_neg (by omega)] at e
  rw [fA_setA, if_pos rfl, cpy0 (n := cz) (nI_clamp (by omega)) hk]
  exact congrFun e k
/-- the counter at p: price, learn, codes -/
def CTX (S : FS) (p : Nat) (pr ln : Int32) (L : Cds) : Prop := fF S p 0 = pr ∧ fF S p 1 = ln ∧ ∃ a b, fR S p 2 = some a ∧ fR S p 3 = some b ∧ DIN S a L.length ∧ DIN S b L.length ∧ ∀ i, i < L.length → fA S a i = (L.getD i (0, 0)).1 ∧ fA S b i = (L.getD i (0, 0)).2
set_option maxHeartbeats 800000 in
set_option maxRecDepth 100000 in
theorem c_jcopyIE (l : Launch) (G : GG) (ad : Nat → Nat) (S : FS) (sz : Nat) (ia cz : Nat) (hia : isA ia 0 100) (hib : ia < 71) (hc100 : cz ≤ 100) (hX : XI S) : Met l yJ7_copyOf_59c91 (Cond.code yJ7_copyOf_59c91 cJ7_copyOf_59c91 3 (some (.array .int)) :: TBL) ({ frames := 3, cells := 1, slots := 100, locals := 89 } : Room) (PcE G (wX G ad S) sz [.ref (ad ia), .int ((nI cz))]) (va_Qq (fun (r : Option Nat) (u : FS × (Nat → Nat)) => XI u.1 ∧ Fr (fun j k => j = 0 ∧ j = 1) S u.1 ∧ (∀ j, j < 71 + fC S → u.2 j = ad j) ∧ ∃ p, r = some (u.2 p) ∧ 71 + fC S ≤ p ∧ DIN u.1 p cz ∧ ∀ k, k < cz → fA u.1 p k = fA S ia k) (fun u t => BW G (va_A (wX G ad S) sz) (wX G u.2 u.1) t) (va_A (wX G ad S) sz)) 1 100 (va_A (wX G ad S) sz) := by
  refine va_MetF (cc := cJ7_copyOf_59c91) (maxL := 3) (ret := (some (.array .int))) (by decide +kernel) rfl ?_
  intro p e s m args below meth c₀ s₁ B hml hv
  obtain ⟨rfl, hsz, hP, hK, hD0, hE⟩ := hv
  have hx := B.exec
  have hb := B.bytes
  have hr := B.returns
  have hT : ∀ w ∈ TBL, w.before ([.ref (ad ia), .int ((nI cz))] : List Value).toArray s = true := fun w h => atoms_spec (ws := Cond.code yJ7_copyOf_59c91 cJ7_copyOf_59c91 3 (some (.array .int)) :: TBL) B.pre w (List.mem_cons_of_mem _ h)
  have hown : s.vm.findClass "java/util/Arrays" = some m.cls := findClass_of_methodNamed B.named
  have hlocks := B.notSynchronized
  subst hsz
  have hD := hD0.self (sz := s.heap.size)
  generalize hAe : va_A (wX G ad S) s.heap.size = A at hD hE ⊢
  have hA : ∀ q : Nat, s.heap.size ≤ q → A q := fun q h => by rw [← hAe]; exact Or.inr h
  have hS : va_S A s.heap s.heap [] := va_S.rf
  have hP : va_P G.1 vwCl (wX G ad S) s.heap := hP
  have hl := lv_entry ([.ref (ad ia), .int ((nI cz))]) (n := 3) (Nat.le_of_ble_eq_true rfl)
  rw [lg_entry_eq]
  generalize (lg_sl ([.ref (ad ia), .int ((nI cz))]) ++ List.replicate (3 - (lg_sl ([.ref (ad ia), .int ((nI cz))])).length) Slot.unset).toArray = ls at hl ⊢
  have hl : lv_has ls 3 [(0, .ref (ad ia)), (1, .int ((nI cz)))] := hl
  refine W_abs (fun Q hQ => ?_)
  generalize ([.ref (ad ia), .int ((nI cz))] : List Value).toArray = args at hT hQ ⊢
  refine lv_iload_n hx hb (fk_get fk_cJ7_copyOf_59c91_0 0 rfl) rfl (lv_at hl 1 rfl) ?_
  refine lv_aload_n hx hb (fk_get fk_cJ7_copyOf_59c91_0 1 rfl) rfl (lv_at hl 0 rfl) ?_
  refine va_alen hx hb hK hP ia 0 (ix_at (lt71 (by omega)) (cX_arr hia)) rfl (v := 100) rfl (fk_get fk_cJ7_copyOf_59c91_0 2 rfl) ?_
  refine lv_icmp_ne (tgt := 14) hx hb (fk_get fk_cJ7_copyOf_59c91_0 3 rfl) (by decide) (fun c_1 => ?_) (fun c_1 => ?_)
  · refine lv_iload_n hx hb (fk_get fk_cJ7_copyOf_59c91_0 8 rfl) rfl (lv_at hl 1 rfl) ?_
    refine r_newa (atype := .int) (N' := cz) (a0 := (cz, .inl (fun _ => 0))) (ty := .int) hx hb (hT _ m1_129) rfl hK hP hD hS hA 0 rfl (fun _ => by intro h; cases h) (fun _ => rfl) (nI_pos (by omega)) (nI_clamp (by omega)) (by show cz * 4 ≤ 536870912; omega) (Nat.le_of_ble_eq_true rfl) (Nat.le_trans (Nat.add_le_add_left (show cz ≤ 100 by omega) _) (Nat.le_of_ble_eq_true rfl)) (dk_get dk_cJ7_copyOf_59c91_0 0 rfl) (fun q_ H hP hD hS => ?_)
    obtain ⟨ad_3, hg_2_, hq_, hPn_, hDn_⟩ := xb 1 cz (fun _ => 0) (fun _ => 0) (fun _ => none) hX (fun _ => rfl) hP hD
    subst hq_
    have hP := hPn_
    have hD := hDn_
    clear hPn_ hDn_
    obtain ⟨S_4, hS_4⟩ : ∃ T, T = gNew S 1 cz (fun _ => 0) (fun _ => 0) (fun _ => none) := ⟨_, rfl⟩
    rw [← hS_4] at hP hD
    have hX_5 : XI S_4 := by rw [hS_4]; exact XI.gnew hX (by intro h; omega)
    have hF_6_ : Fr (fun j _ => j = 0 ∧ j = 1) S S_4 := by rw [hS_4]; exact gNew_fr
    have hF_6 : Fr (fun j k => j = 0 ∧ j = 1) S S_4 := Fr.trans (Fr.rf : Fr (fun j k => j = 0 ∧ j = 1) S S) (Fr.mono hF_6_ (fun j k h => by omega))
    have hg_2 : ∀ j, j < 71 + fC S → ad_3 j = ad j := fun j hj => (hg_2_ j (Nat.lt_of_lt_of_le hj (Nat.add_le_add_left ((Fr.rf : Fr (fun j k => j = 0 ∧ j = 1) S S)).1 71))).trans ((fun _ _ => rfl) j hj)
    obtain ⟨p_7, hp_7⟩ : ∃ p, p = 71 + fC S := ⟨_, rfl⟩
    rw [← hp_7]
    have kp_7 : fK S_4 p_7 = 1 := by rw [hS_4, hp_7]; exact gNew_K _ _ _ _ _ _
    have np_7 : fN S_4 p_7 = cz := by rw [hS_4, hp_7]; exact gNew_N _ _ _ _ _ _
    have rp_7 : fR S_4 p_7 = (fun _ => none) := by rw [hS_4, hp_7]; exact gNew_R _ _ _ _ _ _
    have ap_7 : fA S_4 p_7 = (fun _ => 0) := by rw [hS_4, hp_7]; exact gNew_A _ _ _ _ _ _
    have cp_7 : fC S_4 = fC S + 1 := by rw [hS_4]; rfl
    have lp_7 : p_7 < 71 + fC S_4 := by omega
    have ep_7 : 71 + fC S ≤ p_7 := by have hc_ := ((Fr.rf : Fr (fun j k => j = 0 ∧ j = 1) S S)).1; omega
    have hl : lv_has ls 3 [(0, .ref (ad_3 ia)), (1, .int ((nI cz)))] := by rw [hg_2_ ia ((lt71 (by omega)))]; exact hl
    refine lv_astore_n (lv' := [(2, .ref (ad_3 p_7)), (0, .ref (ad_3 ia)), (1, .int ((nI cz)))]) hx hb (fk_get fk_cJ7_copyOf_59c91_0 9 rfl) rfl hl (by decide) rfl (fun ls hl => ?_)
    refine lv_aload_n hx hb (fk_get fk_cJ7_copyOf_59c91_0 10 rfl) rfl (lv_at hl 1 rfl) ?_
    refine lv_iconst (v := 0) hx hb (fk_get fk_cJ7_copyOf_59c91_0 11 rfl) (by decide) ?_
    refine lv_aload_n hx hb (fk_get fk_cJ7_copyOf_59c91_0 12 rfl) rfl (lv_at hl 0 rfl) ?_
    refine lv_iconst (v := 0) hx hb (fk_get fk_cJ7_copyOf_59c91_0 13 rfl) (by decide) ?_
    refine lv_aload_n hx hb (fk_get fk_cJ7_copyOf_59c91_0 14 rfl) rfl (lv_at hl 1 rfl) ?_
    refine va_alen hx hb hK hP ia 0 (ix_at (lt71 (by omega)) (cX_arr hia)) rfl (v := 100) rfl (fk_get fk_cJ7_copyOf_59c91_0 15 rfl) ?_
    refine lv_iload_n hx hb (fk_get fk_cJ7_copyOf_59c91_0 16 rfl) rfl (lv_at hl 2 rfl) ?_
    refine vp_callSi (W.runS (As := [.int (100), .int ((nI cz))]) (rest := [.int (0), .ref (ad_3 p_7), .int (0), .ref (ad_3 ia)]) ⟨hx, hb, hml, hown, hT⟩ (c_jmin l (100) ((nI cz)) ) (tS 2 hT m3_149 m3_94 m1_18 m3_95 rfl rfl (by decide +kernel) ⟨Nat.le_of_ble_eq_true rfl, Nat.le_of_ble_eq_true rfl⟩) ⟨PcN_blind, PcN_of _ _ _⟩ rfl rfl hl.1 rfl (lv_room (Nat.le_of_ble_eq_true rfl)) (fk_get fk_cJ7_copyOf_59c91_0 17 rfl) ⟨(by show (0 + 1) + 0 ≤ 1; omega), (by show (0 + cz) + 0 ≤ 100; omega)⟩) (fun r_8 hw_9 => ?_)
    try dsimp only at hw_9
    have e_ := mn100 hw_9 hc100
    subst e_
    refine va_copyi hx hb (by rw [hml]; exact hl.1.symm) hown (hT _ m3_150) (hT _ m3_152) (hT _ m3_151) (hT _ m1_24) hK hP hD hS ia p_7 0 0 (ix_at (lt71 (by omega)) (cX_arr hia)) (ix_at ((show DIN S_4 p_7 cz from ⟨by omega, lp_7, kp_7, np_7⟩)).2.1 (cX_din (show DIN S_4 p_7 cz from ⟨by omega, lp_7, kp_7, np_7⟩))) rfl rfl rfl (by decide) (by decide) (nI_pos (by omega)) (by rw [nI_clamp (by omega)]; show 0 + cz ≤ 100; omega) (by rw [nI_clamp (by omega)]; show 0 + cz ≤ cz; omega) (fun _ _ => rfl) (Nat.le_of_ble_eq_true rfl) (Nat.le_of_ble_eq_true rfl) (fk_get fk_cJ7_copyOf_59c91_0 18 rfl) (fun H locs hP hD hS => ?_)
    rw [pX_din (G := G) (ad := ad_3) (S := S_4) (show DIN S_4 p_7 cz from ⟨by omega, lp_7, kp_7, np_7⟩) (va_cpy (fA S_4 ia) (fA S_4 p_7) (0 : Int32).toNatClampNeg (0 : Int32).toNatClampNeg ((nI cz) : Int32).toNatClampNeg)] at hP hD
    have hX_10 : XI (setA S_4 p_7 (va_cpy (fA S_4 ia) (fA S_4 p_7) (0 : Int32).toNatClampNeg (0 : Int32).toNatClampNeg ((nI cz) : Int32).toNatClampNeg)) := XI.sA hX_5 _ (by omega)
    have hF_11 : Fr (fun j k => j = 0 ∧ j = 1) S (setA S_4 p_7 (va_cpy (fA S_4 ia) (fA S_4 p_7) (0 : Int32).toNatClampNeg (0 : Int32).toNatClampNeg ((nI cz) : Int32).toNatClampNeg)) := frnew hF_6 (by omega)
    refine lv_aload_n hx hb (fk_get fk_cJ7_copyOf_59c91_0 19 rfl) rfl (lv_at hl 0 rfl) ?_
    subst hQ
    have hpost : XI (setA S_4 p_7 (va_cpy (fA S_4 ia) (fA S_4 p_7) (0 : Int32).toNatClampNeg (0 : Int32).toNatClampNeg ((nI cz) : Int32).toNatClampNeg)) ∧ Fr (fun j k => j = 0 ∧ j = 1) S (setA S_4 p_7 (va_cpy (fA S_4 ia) (fA S_4 p_7) (0 : Int32).toNatClampNeg (0 : Int32).toNatClampNeg ((nI cz) : Int32).toNatClampNeg)) ∧ (∀ j, j < 71 + fC S → ad_3 j = ad j) ∧ ∃ p, ((some (ad_3 p_7)) : Option Nat) = some (ad_3 p) ∧ 71 + fC S ≤ p ∧ DIN (setA S_4 p_7 (va_cpy (fA S_4 ia) (fA S_4 p_7) (0 : Int32).toNatClampNeg (0 : Int32).toNatClampNeg ((nI cz) : Int32).toNatClampNeg)) p cz ∧ ∀ k, k < cz → fA (setA S_4 p_7 (va_cpy (fA S_4 ia) (fA S_4 p_7) (0 : Int32).toNatClampNeg (0 : Int32).toNatClampNeg ((nI cz) : Int32).toNatClampNeg)) p k = fA S ia k := by
      exact ⟨hX_10, hF_11, hg_2, ⟨p_7, rfl, by omega, ⟨by omega, lp_7, kp_7, (np_7).trans (by omega)⟩, fun k hk => by first | exact congrFun ap_7 k | exact cpI (hF_11) (by omega) hib (by omega) hk hc100⟩⟩
    refine W.widen (k := 1) (n := 100) (by omega) (by omega) ?_
    exact W.aret hx hb hr (Or.inr ⟨_, rfl⟩) (Or.inr ⟨_, rfl⟩) (fun t_ ht_ hW_ => ⟨⟨(some (ad_3 p_7)), ((setA S_4 p_7 (va_cpy (fA S_4 ia) (fA S_4 p_7) (0 : Int32).toNatClampNeg (0 : Int32).toNatClampNeg ((nI cz) : Int32).toNatClampNeg)), ad_3), rfl, hpost, by rw [ht_]; exact hP, va_K.moved hW_.alike hK, hD⟩, hS.F ht_⟩) hS.2.2 (fk_get fk_cJ7_copyOf_59c91_0 20 rfl)
  have e100 : cz = 100 := by first | exact cz100 (by omega) c_1 | exact cz100 (by omega) (Decidable.not_not.mp c_1)
  refine lv_aload_n hx hb (fk_get fk_cJ7_copyOf_59c91_0 4 rfl) rfl (lv_at hl 0 rfl) ?_
  refine va_clone (ad := "[I") hx hb (by rw [hml]; exact hl.1.symm) hown (hT _ m3_142) (hT _ m3_143) (hT _ m3_144) (hT _ m3_145) (hT _ m3_146) hE.2.2.2.2.2.2.2.2.1 hK hP hD hS hA ia 0 (ix_at (lt71 (by omega)) (cX_arr hia)) rfl (hK.2 0 _ rfl).2 (fun i v h => fit_arr h) (Nat.le_of_ble_eq_true rfl) (Nat.le_of_ble_eq_true rfl) (Nat.le_of_ble_eq_true rfl) (Nat.le_of_ble_eq_true rfl) (fk_get fk_cJ7_copyOf_59c91_0 5 rfl) (fun q_ H _ hP hD hS => ?_)
  obtain ⟨ad_13, hg_12_, hq_, hPn_, hDn_⟩ := xb 1 100 (fun _ => 0) (fA S ia) (fun _ => none) hX (fun _ => rfl) hP hD
  subst hq_
  have hP := hPn_
  have hD := hDn_
  clear hPn_ hDn_
  obtain ⟨S_14, hS_14⟩ : ∃ T, T = gNew S 1 100 (fun _ => 0) (fA S ia) (fun _ => none) := ⟨_, rfl⟩
  rw [← hS_14] at hP hD
  have hX_15 : XI S_14 := by rw [hS_14]; exact XI.gnew hX (by intro h; omega)
  have hF_16_ : Fr (fun j _ => j = 0 ∧ j = 1) S S_14 := by rw [hS_14]; exact gNew_fr
  have hF_16 : Fr (fun j k => j = 0 ∧ j = 1) S S_14 := Fr.trans (Fr.rf : Fr (fun j k => j = 0 ∧ j = 1) S S) (Fr.mono hF_16_ (fun j k h => by omega))
  have hg_12 : ∀ j, j < 71 + fC S → ad_13 j = ad j := fun j hj => (hg_12_ j (Nat.lt_of_lt_of_le hj (Nat.add_le_add_left ((Fr.rf : Fr (fun j k => j = 0 ∧ j = 1) S S)).1 71))).trans ((fun _ _ => rfl) j hj)
  obtain ⟨p_17, hp_17⟩ : ∃ p, p = 71 + fC S := ⟨_, rfl⟩
  rw [← hp_17]
  have kp_17 : fK S_14 p_17 = 1 := by rw [hS_14, hp_17]; exact gNew_K _ _ _ _ _ _
  have np_17 : fN S_14 p_17 = 100 := by rw [hS_14, hp_17]; exact gNew_N _ _ _ _ _ _
  have rp_17 : fR S_14 p_17 = (fun _ => none) := by rw [hS_14, hp_17]; exact gNew_R _ _ _ _ _ _
  have ap_17 : fA S_14 p_17 = (fA S ia) := by rw [hS_14, hp_17]; exact gNew_A _ _ _ _ _ _
  have cp_17 : fC S_14 = fC S + 1 := by rw [hS_14]; rfl
  have lp_17 : p_17 < 71 + fC S_14 := by omega
  have ep_17 : 71 + fC S ≤ p_17 := by have hc_ := ((Fr.rf : Fr (fun j k => j = 0 ∧ j = 1) S S)).1; omega
  have hl : lv_has ls 3 [(0, .ref (ad_13 ia)), (1, .int ((nI cz)))] := by rw [hg_12_ ia ((lt71 (by omega)))]; exact hl
  refine va_castA hx hb hown (hT _ m3_148) hP p_17 (ix_at ((show DIN S_14 p_17 100 from ⟨by omega, lp_17, kp_17, np_17⟩)).2.1 (cX_din (show DIN S_14 p_17 100 from ⟨by omega, lp_17, kp_17, np_17⟩))) (hK.2 0 _ rfl).2 (fk_get fk_cJ7_copyOf_59c91_0 6 rfl) ?_
  subst hQ
  have hpost : XI S_14 ∧ Fr (fun j k => j = 0 ∧ j = 1) S S_14 ∧ (∀ j, j < 71 + fC S → ad_13 j = ad j) ∧ ∃ p, ((some (ad_13 p_17)) : Option Nat) = some (ad_13 p) ∧ 71 + fC S ≤ p ∧ DIN S_14 p cz ∧ ∀ k, k < cz → fA S_14 p k = fA S ia k := by
    exact ⟨hX_15, hF_16, hg_12, ⟨p_17, rfl, by omega, ⟨by omega, lp_17, kp_17, (np_17).trans (by omega)⟩, fun k hk => by first | exact congrFun ap_17 k | exact cpI (hF_16) (by omega) hib (by omega) hk hc100⟩⟩
  refine W.widen (k := 1) (n := 100) (by omega) (by omega) ?_
  exact W.aret hx hb hr (Or.inr ⟨_, rfl⟩) (Or.inr ⟨_, rfl⟩) (fun t_ ht_ hW_ => ⟨⟨(some (ad_13 p_17)), (S_14, ad_13), rfl, hpost, by rw [ht_]; exact hP, va_K.moved hW_.alike hK, hD⟩, hS.F ht_⟩) hS.2.2 (fk_get fk_cJ7_copyOf_59c91_0 7 rfl)
set_option maxHeartbeats 800000 in
set_option maxRecDepth 100000 in
theorem c_x1_initE (l : Launch) (G : GG) (ad : Nat → Nat) (S : FS) (sz : Nat) (pz : Nat) (L : Cds) (h71 : 71 ≤ pz) (hlt : pz < 71 + fC S) (hk : fK S pz = 0) (hns : noSh S pz) (hcn : fF S 57 7 = nI L.length) (hcl : L.length ≤ 100) (hcd : ∀ i, i < L.length → fA S 59 i = (L.getD i (0, 0)).1 ∧ fA S 60 i = (L.getD i (0, 0)).2) (hX : XI S) : Met l yX1_init_ (Cond.code yX1_init_ cX1_init_ 2 none :: TBL) ({ frames := 4, cells := 2, slots := 200, locals := 115 } : Room) (PcE G (wX G ad S) sz [.ref (ad pz), .ref (ad 57)]) (va_Qv (fun (u : FS × (Nat → Nat)) => XI u.1 ∧ Fr (fun j k => j = pz) S u.1 ∧ (∀ j, j < 71 + fC S → u.2 j = ad j) ∧ CTX u.1 pz (fF S 57 3) (fF S 57 4) L ∧ COK u.1 pz) (fun u t => BW G (va_A (wX G ad S) sz) (wX G u.2 u.1) t) (va_A (wX G ad S) sz)) 2 200 (va_A (wX G ad S) sz) := by
  refine Met.ofW (cc := cX1_init_) (maxL := 2) (ret := none) (by decide) rfl ?_
  intro p e s m args below meth c₀ s₁ B hml hv
  obtain ⟨rfl, hsz, hP, hK, hD0, hE⟩ := hv
  have hx := B.exec
  have hb := B.bytes
  have hr := B.returns
  have hT : ∀ w ∈ TBL, w.before ([.ref (ad pz), .ref (ad 57)] : List Value).toArray s = true := fun w h => atoms_spec (ws := Cond.code yX1_init_ cX1_init_ 2 none :: TBL) B.pre w (List.mem_cons_of_mem _ h)
  have hown : s.vm.findClass "LittleMore$Counter" = some m.cls := findClass_of_methodNamed B.named
  have hlocks := B.notSynchronized
  subst hsz
  have hD := hD0.self (sz := s.heap.size)
  generalize hAe : va_A (wX G ad S) s.heap.size = A at hD hE ⊢
  have hA : ∀ q : Nat, s.heap.size ≤ q → A q := fun q h => by rw [← hAe]; exact Or.inr h
  have hS : va_S A s.heap s.heap [] := va_S.rf
  have hP : va_P G.1 vwCl (wX G ad S) s.heap := hP
  have hl := lv_entry ([.ref (ad pz), .ref (ad 57)]) (n := 2) (Nat.le_of_ble_eq_true rfl)
  rw [lg_entry_eq]
  generalize (lg_sl ([.ref (ad pz), .ref (ad 57)]) ++ List.replicate (2 - (lg_sl ([.ref (ad pz), .ref (ad 57)])).length) Slot.unset).toArray = ls at hl ⊢
  have hl : lv_has ls 2 [(0, .ref (ad pz)), (1, .ref (ad 57))] := hl
  refine W_abs (fun Q hQ => ?_)
  generalize ([.ref (ad pz), .ref (ad 57)] : List Value).toArray = args at hT hQ ⊢
  have hin : meth.name = "<init>" := (name_of_methodNamed B.named B.method).1
  refine lv_aload_n hx hb (fk_get fk_cX1_init__0 0 rfl) rfl (lv_at hl 0 rfl) ?_
  refine W.objInit hx hb hown (hT (.methodLink "LittleMore$Counter" 3 objectInit) m1_112) (hT (.instanceMethod objectInit) m1_36) (hT _ m1_37) rfl (by rw [hml]; exact hl.1) rfl (fk_get fk_cX1_init__0 1 rfl) (Nat.le_of_ble_eq_true rfl) (Nat.le_of_ble_eq_true rfl) ?_
  refine W.eq (g2 := F0 m 4 ls []) rfl ?_
  refine lv_aload_n hx hb (fk_get fk_cX1_init__0 2 rfl) rfl (lv_at hl 0 rfl) ?_
  refine lv_aload_n hx hb (fk_get fk_cX1_init__0 3 rfl) rfl (lv_at hl 1 rfl) ?_
  refine va_get (D := G.1) (ci := 11) (v := .int (fF S 57 3)) (C := RX9) (T := TX9) (N := 9) hx hb hT inX9 hown hK hP 57 (ix_at (lt71 (by omega)) (cX_text G ad S)) rfl 3 (by decide) (hT _ m2_8) (fun _ h9 => h9) rfl (fk_get fk_cX1_init__0 4 rfl) ?_
  refine va_putF (D := G.1) (ci := 3) (v := .int ((fF S 57 3))) (ty := .int) (C := RX1) (T := TX1) (N := 4) hx hb hT inX1 tyX1 tyX1_ok nmX1 hown hK hP hD hS pz (ix_at (Nat.lt_of_lt_of_le hlt (Nat.add_le_add_left ((Fr.rf : Fr (fun j k => j = pz) S S)).1 71)) (cX_ctr h71 ((((Fr.rf : Fr (fun j k => j = pz) S S)).K hlt).trans hk))) rfl 0 (by decide) (hT _ m1_113) (fun _ h9 => h9) rfl hin rfl (by decide +kernel) rfl rfl (Nat.le_of_ble_eq_true rfl) (fk_get fk_cX1_init__0 5 rfl) (fun H locs hP hD hS => ?_)
  rw [pX_ctrF (G := G) (ad := ad) (S := S) h71 (Nat.lt_of_lt_of_le hlt (Nat.add_le_add_left ((Fr.rf : Fr (fun j k => j = pz) S S)).1 71)) ((((Fr.rf : Fr (fun j k => j = pz) S S)).K hlt).trans hk) 0 (by decide) ((fF S 57 3))] at hP hD
  have hX_1 : XI (setF S pz 0 ((fF S 57 3))) := XI.dF hX _ h71
  have hF_2 : Fr (fun j k => j = pz) S (setF S pz 0 ((fF S 57 3))) := Fr.sF (Fr.rf : Fr (fun j k => j = pz) S S) (by omega)
  refine lv_aload_n hx hb (fk_get fk_cX1_init__0 6 rfl) rfl (lv_at hl 0 rfl) ?_
  refine lv_aload_n hx hb (fk_get fk_cX1_init__0 7 rfl) rfl (lv_at hl 1 rfl) ?_
  refine va_get (D := G.1) (ci := 11) (v := .int (fF (setF S pz 0 ((fF S 57 3))) 57 4)) (C := RX9) (T := TX9) (N := 9) hx hb hT inX9 hown hK hP 57 (ix_at (lt71 (by omega)) (cX_text G ad (setF S pz 0 ((fF S 57 3))))) rfl 4 (by decide) (hT _ m2_10) (fun _ h9 => h9) rfl (fk_get fk_cX1_init__0 8 rfl) ?_
  rw [show fF (setF S pz 0 ((fF S 57 3))) 57 4 = (fF S 57 4) from by simp [fF_setF, fF_setR, fF_setA, fF_setL]]
  refine va_putF (D := G.1) (ci := 3) (v := .int ((fF S 57 4))) (ty := .int) (C := RX1) (T := TX1) (N := 4) hx hb hT inX1 tyX1 tyX1_ok nmX1 hown hK hP hD hS pz (ix_at (Nat.lt_of_lt_of_le hlt (Nat.add_le_add_left (hF_2).1 71)) (cX_ctr h71 (((hF_2).K hlt).trans hk))) rfl 1 (by decide) (hT _ m1_115) (fun _ h9 => h9) rfl hin rfl (by decide +kernel) rfl rfl (Nat.le_of_ble_eq_true rfl) (fk_get fk_cX1_init__0 9 rfl) (fun H locs hP hD hS => ?_)
  rw [pX_ctrF (G := G) (ad := ad) (S := (setF S pz 0 ((fF S 57 3)))) h71 (Nat.lt_of_lt_of_le hlt (Nat.add_le_add_left (hF_2).1 71)) (((hF_2).K hlt).trans hk) 1 (by decide) ((fF S 57 4))] at hP hD
  have hX_3 : XI (setF (setF S pz 0 ((fF S 57 3))) pz 1 ((fF S 57 4))) := XI.dF hX_1 _ h71
  have hF_4 : Fr (fun j k => j = pz) S (setF (setF S pz 0 ((fF S 57 3))) pz 1 ((fF S 57 4))) := Fr.sF hF_2 (by omega)
  refine lv_aload_n hx hb (fk_get fk_cX1_init__0 10 rfl) rfl (lv_at hl 0 rfl) ?_
  refine lv_aload_n hx hb (fk_get fk_cX1_init__0 11 rfl) rfl (lv_at hl 1 rfl) ?_
  refine va_get (D := G.1) (ci := 11) (v := .ref (ad 59)) (C := RX9) (T := TX9) (N := 9) hx hb hT inX9 hown hK hP 57 (ix_at (lt71 (by omega)) (cX_text G ad (setF (setF S pz 0 ((fF S 57 3))) pz 1 ((fF S 57 4))))) rfl 5 (by decide) (hT _ m2_12) (fun _ h9 => h9) rfl (fk_get fk_cX1_init__0 12 rfl) ?_
  refine lv_aload_n hx hb (fk_get fk_cX1_init__0 13 rfl) rfl (lv_at hl 1 rfl) ?_
  refine va_get (D := G.1) (ci := 11) (v := .int (fF (setF (setF S pz 0 ((fF S 57 3))) pz 1 ((fF S 57 4))) 57 7)) (C := RX9) (T := TX9) (N := 9) hx hb hT inX9 hown hK hP 57 (ix_at (lt71 (by omega)) (cX_text G ad (setF (setF S pz 0 ((fF S 57 3))) pz 1 ((fF S 57 4))))) rfl 7 (by decide) (hT _ m2_16) (fun _ h9 => h9) rfl (fk_get fk_cX1_init__0 14 rfl) ?_
  rw [show fF (setF (setF S pz 0 ((fF S 57 3))) pz 1 ((fF S 57 4))) 57 7 = (fF S 57 7) from by simp [fF_setF, fF_setR, fF_setA, fF_setL]]
  rw [hcn]
  have hFc := va_self hD hS hA
  refine va_callq (va_runS (As := [.ref (ad 59), .int ((nI L.length))]) (rest := [.ref (ad pz)]) ⟨hx, hb, hml, hown, hT⟩ (c_jcopyIE l G ad (setF (setF S pz 0 ((fF S 57 3))) pz 1 ((fF S 57 4))) H.size (59) (L.length) ((show isA 59 0 100 from by decide)) (by first | assumption | omega) (by first | assumption | omega) (hX_3)) (tS 2 hT m3_139 m3_140 m1_16 m3_141 rfl rfl (by decide +kernel) ⟨Nat.le_of_ble_eq_true rfl, Nat.le_of_ble_eq_true rfl⟩) ⟨PcE_blind, PcE_of hP hK hD hE hS (fun q h => hFc q h) _⟩ rfl rfl hl.1 rfl (lv_room (Nat.le_of_ble_eq_true rfl)) (fk_get fk_cX1_init__0 15 rfl) ⟨Nat.le_of_ble_eq_true rfl, Nat.le_of_ble_eq_true rfl⟩) hS (fun q _ h => hFc q h) hFc (fun r_5 u_ t_ H locs ht_ hvm_ hw_6 hB_ hz_ hk_ hS => ?_)
  obtain ⟨S_7, ad_8⟩ := u_
  dsimp only at hB_ hw_6
  obtain ⟨hP, -, hD1_⟩ := hB_
  rw [ht_] at hP
  have hD : va_D A (wX G ad_8 S_7) := hD1_.weaken (fun k q _ h => hFc q.1 h)
  obtain ⟨hX_9, hF_10_, hg_11_, hw_6⟩ := hw_6
  have hg_11 : ∀ j, j < 71 + fC S → ad_8 j = ad j := fun j hj => (hg_11_ j (Nat.lt_of_lt_of_le hj (Nat.add_le_add_left (hF_4).1 71))).trans ((fun _ _ => rfl) j hj)
  have hF_10 : Fr (fun j k => j = pz) S S_7 := Fr.tr hF_4 hF_10_ (fun j k hj h => by have hc_ := (hF_4).1; omega)
  have hl : lv_has ls 2 [(0, .ref (ad_8 pz)), (1, .ref (ad_8 57))] := by rw [hg_11_ pz ((Nat.lt_of_lt_of_le hlt (Nat.add_le_add_left (hF_4).1 71))), hg_11_ 57 ((lt71 (by omega)))]; exact hl
  rw [← hg_11_ pz ((Nat.lt_of_lt_of_le hlt (Nat.add_le_add_left (hF_4).1 71)))]
  have hl1_ := hF_10_
  have hf1_ := hF_10
  have en2 := ((hF_10).F (j := 57) (k := 7) (lt71 (by omega)) (by omega)).trans hcn
  obtain ⟨pd_29, rfl, gd_29, dd_29, cd_29⟩ := hw_6
  rw [show va_rf (some (ad_8 pd_29)) = .ref (ad_8 pd_29) from rfl]
  refine va_putF (D := G.1) (ci := 3) (v := .ref (ad_8 pd_29)) (ty := (.array .int)) (C := RX1) (T := TX1) (N := 4) hx hb hT inX1 tyX1 tyX1_ok nmX1 hown hK hP hD hS pz (ix_at (Nat.lt_of_lt_of_le hlt (Nat.add_le_add_left (hF_10).1 71)) (cX_ctr h71 (((hF_10).K hlt).trans hk))) rfl 2 (by decide) (hT _ m1_118) (fun _ h9 => h9) rfl hin rfl (by decide +kernel) rfl rfl (Nat.le_of_ble_eq_true rfl) (fk_get fk_cX1_init__0 16 rfl) (fun H locs hP hD hS => ?_)
  rw [pX_ctrR (G := G) (ad := ad_8) (S := S_7) h71 (Nat.lt_of_lt_of_le hlt (Nat.add_le_add_left (hF_10).1 71)) (((hF_10).K hlt).trans hk) 2 (by decide) (pd_29)] at hP hD
  have hX_12 : XI (setR S_7 pz 2 (some (pd_29))) := XI.dR hX_9 _ h71 (((hF_10).K hlt).trans hk) (noSh.fr hns hF_10 (by omega)) dd_29.2.1
  have hF_13 : Fr (fun j k => j = pz) S (setR S_7 pz 2 (some (pd_29))) := Fr.sR hF_10 (by omega)
  refine lv_aload_n hx hb (fk_get fk_cX1_init__0 17 rfl) rfl (lv_at hl 0 rfl) ?_
  refine lv_aload_n hx hb (fk_get fk_cX1_init__0 18 rfl) rfl (lv_at hl 1 rfl) ?_
  refine va_get (D := G.1) (ci := 11) (v := .ref (ad_8 60)) (C := RX9) (T := TX9) (N := 9) hx hb hT inX9 hown hK hP 57 (ix_at (lt71 (by omega)) (cX_text G ad_8 (setR S_7 pz 2 (some (pd_29))))) rfl 6 (by decide) (hT _ m2_14) (fun _ h9 => h9) rfl (fk_get fk_cX1_init__0 19 rfl) ?_
  refine lv_aload_n hx hb (fk_get fk_cX1_init__0 20 rfl) rfl (lv_at hl 1 rfl) ?_
  refine va_get (D := G.1) (ci := 11) (v := .int (fF (setR S_7 pz 2 (some (pd_29))) 57 7)) (C := RX9) (T := TX9) (N := 9) hx hb hT inX9 hown hK hP 57 (ix_at (lt71 (by omega)) (cX_text G ad_8 (setR S_7 pz 2 (some (pd_29))))) rfl 7 (by decide) (hT _ m2_16) (fun _ h9 => h9) rfl (fk_get fk_cX1_init__0 21 rfl) ?_
  rw [show fF (setR S_7 pz 2 (some (pd_29))) 57 7 = (fF S_7 57 7) from by simp [fF_setF, fF_setR, fF_setA, fF_setL]]
  rw [en2]
  have hFc := va_self hD hS hA
  refine va_callq (va_runS (As := [.ref (ad_8 60), .int ((nI L.length))]) (rest := [.ref (ad_8 pz)]) ⟨hx, hb, hml, hown, hT⟩ (c_jcopyIE l G ad_8 (setR S_7 pz 2 (some (pd_29))) H.size (60) (L.length) ((show isA 60 0 100 from by decide)) (by first | assumption | omega) (by first | assumption | omega) (hX_12)) (tS 2 hT m3_139 m3_140 m1_16 m3_141 rfl rfl (by decide +kernel) ⟨Nat.le_of_ble_eq_true rfl, Nat.le_of_ble_eq_true rfl⟩) ⟨PcE_blind, PcE_of hP hK hD hE hS (fun q h => hFc q h) _⟩ rfl rfl hl.1 rfl (lv_room (Nat.le_of_ble_eq_true rfl)) (fk_get fk_cX1_init__0 22 rfl) ⟨(by show (0 + 1) + 1 ≤ 2; omega), (by show (0 + 100) + 100 ≤ 200; omega)⟩) hS (fun q _ h => hFc q h) hFc (fun r_14 u_ t_ H locs ht_ hvm_ hw_15 hB_ hz_ hk_ hS => ?_)
  obtain ⟨S_16, ad_17⟩ := u_
  dsimp only at hB_ hw_15
  obtain ⟨hP, -, hD1_⟩ := hB_
  rw [ht_] at hP
  have hD : va_D A (wX G ad_17 S_16) := hD1_.weaken (fun k q _ h => hFc q.1 h)
  obtain ⟨hX_18, hF_19_, hg_20_, hw_15⟩ := hw_15
  have hg_20 : ∀ j, j < 71 + fC S → ad_17 j = ad j := fun j hj => (hg_20_ j (Nat.lt_of_lt_of_le hj (Nat.add_le_add_left (hF_13).1 71))).trans (hg_11 j hj)
  have hF_19 : Fr (fun j k => j = pz) S S_16 := Fr.tr hF_13 hF_19_ (fun j k hj h => by have hc_ := (hF_13).1; omega)
  have hl : lv_has ls 2 [(0, .ref (ad_17 pz)), (1, .ref (ad_17 57))] := by rw [hg_20_ pz ((Nat.lt_of_lt_of_le hlt (Nat.add_le_add_left (hF_13).1 71))), hg_20_ 57 ((lt71 (by omega)))]; exact hl
  rw [← hg_20_ pz ((Nat.lt_of_lt_of_le hlt (Nat.add_le_add_left (hF_13).1 71)))]
  have hf2_ := hF_19_
  have hf3_ := hF_19
  obtain ⟨pd_44, rfl, gd_44, dd_44, cd_44⟩ := hw_15
  rw [show va_rf (some (ad_17 pd_44)) = .ref (ad_17 pd_44) from rfl]
  refine va_putF (D := G.1) (ci := 3) (v := .ref (ad_17 pd_44)) (ty := (.array .int)) (C := RX1) (T := TX1) (N := 4) hx hb hT inX1 tyX1 tyX1_ok nmX1 hown hK hP hD hS pz (ix_at (Nat.lt_of_lt_of_le hlt (Nat.add_le_add_left (hF_19).1 71)) (cX_ctr h71 (((hF_19).K hlt).trans hk))) rfl 3 (by decide) (hT _ m1_119) (fun _ h9 => h9) rfl hin rfl (by decide +kernel) rfl rfl (Nat.le_of_ble_eq_true rfl) (fk_get fk_cX1_init__0 23 rfl) (fun H locs hP hD hS => ?_)
  rw [pX_ctrR (G := G) (ad := ad_17) (S := S_16) h71 (Nat.lt_of_lt_of_le hlt (Nat.add_le_add_left (hF_19).1 71)) (((hF_19).K hlt).trans hk) 3 (by decide) (pd_44)] at hP hD
  have hX_21 : XI (setR S_16 pz 3 (some (pd_44))) := XI.dR hX_18 _ h71 (((hF_19).K hlt).trans hk) (noSh.fr hns hF_19 (by omega)) dd_44.2.1
  have hF_22 : Fr (fun j k => j = pz) S (setR S_16 pz 3 (some (pd_44))) := Fr.sR hF_19 (by omega)
  subst hQ
  have hpost : XI (setR S_16 pz 3 (some (pd_44))) ∧ Fr (fun j k => j = pz) S (setR S_16 pz 3 (some (pd_44))) ∧ (∀ j, j < 71 + fC S → ad_17 j = ad j) ∧ CTX (setR S_16 pz 3 (some (pd_44))) pz (fF S 57 3) (fF S 57 4) L ∧ COK (setR S_16 pz 3 (some (pd_44))) pz := by
    exact ⟨hX_21, hF_22, hg_20, ⟨⟨((hf2_.F (j := pz) (k := 0) (Nat.lt_of_lt_of_le hlt (Nat.add_le_add_left (hf1_).1 71)) (by omega)).trans ((hl1_.F (j := pz) (k := 0) hlt (by omega)).trans (by rw [fF_setF, if_neg (by omega), fF_setF, if_pos ⟨rfl, rfl⟩]))), ((hf2_.F (j := pz) (k := 1) (Nat.lt_of_lt_of_le hlt (Nat.add_le_add_left (hf1_).1 71)) (by omega)).trans ((hl1_.F (j := pz) (k := 1) hlt (by omega)).trans (by rw [fF_setF, if_pos ⟨rfl, rfl⟩]))), _, _, (by rw [fR_setR, if_neg (by omega)]; exact (hf2_.R (Nat.lt_of_lt_of_le hlt (Nat.add_le_add_left (hf1_).1 71)) (by omega)).trans (by rw [fR_setR, if_pos ⟨rfl, rfl⟩])), (by rw [fR_setR, if_pos ⟨rfl, rfl⟩]), (by have q_ := DIN.fr (a := pd_29) (L := L.length) (by exact dd_29) hf2_; exact q_), dd_44, fun i hi => ⟨(congrFun (hf2_.A (j := pd_29) dd_29.2.1 (by omega)) i).trans ((cd_29 i hi).trans (hcd i hi).1), (cd_44 i hi).trans ((congrFun (hl1_.A (j := 60) (lt71 (by omega)) (by omega)) i).trans (hcd i hi).2)⟩⟩, h71, Nat.lt_of_lt_of_le hlt (Nat.add_le_add_left hf3_.1 71), (hf3_.K hlt).trans hk, _, _, L.length, (by rw [fR_setR, if_neg (by omega)]; exact (hf2_.R (Nat.lt_of_lt_of_le hlt (Nat.add_le_add_left (hf1_).1 71)) (by omega)).trans (by rw [fR_setR, if_pos ⟨rfl, rfl⟩])), (by rw [fR_setR, if_pos ⟨rfl, rfl⟩]), hcl, (by have q_ := DIN.fr (a := pd_29) (L := L.length) (by exact dd_29) hf2_; exact q_), dd_44⟩⟩
  refine W.widen (k := 2) (n := 200) (by omega) (by omega) ?_
  exact W.vret hx hb hr (fun t_ ht_ hW_ => ⟨⟨((setR S_16 pz 3 (some (pd_44))), ad_17), rfl, hpost, by rw [ht_]; exact hP, va_K.moved hW_.alike hK, hD⟩, hS.F ht_⟩) hS.2.2 (fk_get fk_cX1_init__0 24 rfl)
theorem cnt_f {α : Type} {A : Al α} {τ : Nat → Int32} {z k q : Nat} {C : List (Nat × Int32 × Option (Nat × α))} (hk : k < 10) (n0 : ¬ k = 0) (h : ¬ τ q = 59) : cntL A τ z (10 - k) (decide (k = 0)) C q = (none, q) := by
  rw [show 10 - k = (10 - (k + 1)) + 1 by omega, decide_eq_false n0]
  exact if_neg (fun e => e.elim (fun e => by cases e) h)
theorem cnt_c {α : Type} {A : Al α} {τ : Nat → Int32} {z k q q' : Nat} {C : List (Nat × Int32 × Option (Nat × α))} (hk : k < 10) (h : (k = 0 ∧ q' = q) ∨ (¬ k = 0 ∧ τ q = 59 ∧ q' = q + 1)) : cntL A τ z (10 - k) (decide (k = 0)) C q = thn (clP A τ q') (fun c q => if q = z then (some (C ++ [c]), q) else cntL A τ z (10 - (k + 1)) (decide (k + 1 = 0)) (C ++ [c]) q) := by
  rw [show 10 - k = (10 - (k + 1)) + 1 by omega, decide_eq_false (show ¬ k + 1 = 0 by omega)]
  rcases h with ⟨h0, rfl⟩ | ⟨h0, h1, rfl⟩
  · rw [decide_eq_true h0]
    exact (if_pos (Or.inl rfl)).trans (by rw [if_pos rfl])
  · rw [decide_eq_false h0]
    exact (if_pos (Or.inr h1)).trans (by rw [if_neg (fun e => by cases e)])
theorem clo_y {τ : Nat → Int32} {p c : Nat} {r : Int32} {S S' : FS} (h : ClP τ p c r S S') (n : ¬ r = 0) : ∃ x, (clP cdA τ p).1 = some x ∧ fF S' 57 2 = nI (clP cdA τ p).2 ∧ CdP S S' c (ccd x) ∧ fF S' 57 3 = (if x.1 = 2 then x.2.1 else fF S 57 3) ∧ fF S' 57 4 = (if x.1 = 3 then x.2.1 else fF S 57 4) := by
  obtain ⟨a, b | ⟨x, b1, b2, b3⟩⟩ := h
  · exact absurd b.2 n
  · exact ⟨x, b1, a, b3⟩
theorem clo_n {τ : Nat → Int32} {p c : Nat} {r : Int32} {S S' : FS} (h : ClP τ p c r S S') (n : r = 0) : (clP cdA τ p).1 = none ∧ fF S' 57 2 = nI (clP cdA τ p).2 := by
  obtain ⟨a, b | ⟨x, b1, b2, b3⟩⟩ := h
  · exact ⟨b.1, a⟩
  · exact absurd (n.symm.trans b2) (by decide)
abbrev Cls := List (Nat × Int32 × Option (Nat × Cds))
theorem lst_1 {C : Cls} {x : Nat × Int32 × Option (Nat × Cds)} (k : Nat) (v : Int32) : lstW k v (C ++ [x]) = if x.1 = k then x.2.1 else lstW k v C := lstW_app k C [x] v
/-- what toCounter() does -/
def TcP (τ : Nat → Int32) (z : Nat) (r : Option Nat) (U : FS) (a : Nat → Nat) : Prop := fF U 57 2 = nI (cntP cdA τ z).2 ∧ (((cntP cdA τ z).1 = none ∧ r = none) ∨ ∃ C p, (cntP cdA τ z).1 = some C ∧ r = some (a p) ∧ COK U p ∧ CTX U p (lstW 2 5 C) (lstW 3 1 C) (cds C))
set_option maxHeartbeats 800000 in
set_option maxRecDepth 100000 in
theorem c_x9_toCounterE (l : Launch) (G : GG) (ad : Nat → Nat) (S : FS) (sz : Nat) (z : Nat) (τ : Nat → Int32) (hTx : TXz S z τ) (hX : XI S) : Met l yX9_toCounter (Cond.code yX9_toCounter cX9_toCounter 3 (some (.object "LittleMore$Counter")) :: TBL) ({ frames := 23, cells := 3, slots := 204, locals := 619 } : Room) (PcE G (wX G ad S) sz [.ref (ad 57)]) (va_Qq (fun (r : Option Nat) (u : FS × (Nat → Nat)) => XI u.1 ∧ Fr (fun j k => (j = 57 ∧ (k = 2 ∨ k = 3 ∨ k = 4 ∨ k = 7 ∨ k = 8)) ∨ ((j = 59 ∨ j = 60) ∧ k = 99)) S u.1 ∧ (∀ j, j < 71 + fC S → u.2 j = ad j) ∧ TcP τ z r u.1 u.2) (fun u t => BW G (va_A (wX G ad S) sz) (wX G u.2 u.1) t) (va_A (wX G ad S) sz)) 3 204 (va_A (wX G ad S) sz) := by
  refine Met.ofW (cc := cX9_toCounter) (maxL := 3) (ret := (some (.object "LittleMore$Counter"))) (by decide) rfl ?_
  intro p e s m args below meth c₀ s₁ B hml hv
  obtain ⟨rfl, hsz, hP, hK, hD0, hE⟩ := hv
  have hx := B.exec
  have hb := B.bytes
  have hr := B.returns
  have hT : ∀ w ∈ TBL, w.before ([.ref (ad 57)] : List Value).toArray s = true := fun w h => atoms_spec (ws := Cond.code yX9_toCounter cX9_toCounter 3 (some (.object "LittleMore$Counter")) :: TBL) B.pre w (List.mem_cons_of_mem _ h)
  have hown : s.vm.findClass "LittleMore$Text" = some m.cls := findClass_of_methodNamed B.named
  have hlocks := B.notSynchronized
  subst hsz
  have hD := hD0.self (sz := s.heap.size)
  generalize hAe : va_A (wX G ad S) s.heap.size = A at hD hE ⊢
  have hA : ∀ q : Nat, s.heap.size ≤ q → A q := fun q h => by rw [← hAe]; exact Or.inr h
  have hS : va_S A s.heap s.heap [] := va_S.rf
  have hP : va_P G.1 vwCl (wX G ad S) s.heap := hP
  have hl := lv_entry ([.ref (ad 57)]) (n := 3) (Nat.le_of_ble_eq_true rfl)
  rw [lg_entry_eq]
  generalize (lg_sl ([.ref (ad 57)]) ++ List.replicate (3 - (lg_sl ([.ref (ad 57)])).length) Slot.unset).toArray = ls at hl ⊢
  have hl : lv_has ls 3 [(0, .ref (ad 57))] := hl
  refine W_abs (fun Q hQ => ?_)
  generalize ([.ref (ad 57)] : List Value).toArray = args at hT hQ ⊢
  have hz1 := hTx.2.1
  refine lv_aload_n hx hb (fk_get fk_cX9_toCounter_0 0 rfl) rfl (lv_at hl 0 rfl) ?_
  refine lv_iconst (v := 0) hx hb (fk_get fk_cX9_toCounter_0 1 rfl) (by decide) ?_
  refine va_put (D := G.1) (ci := 11) (v := .int (0)) (ty := .int) (C := RX9) (T := TX9) (N := 9) hx hb hT inX9 tyX9 tyX9_ok nmX9 hown hK hP hD hS 57 (ix_at (lt71 (by omega)) (cX_text G ad S)) rfl 2 (by decide) (hT _ m2_5) (fun _ h9 => h9) rfl (by decide +kernel) rfl rfl (Nat.le_of_ble_eq_true rfl) (fk_get fk_cX9_toCounter_0 2 rfl) (fun H locs hP hD hS => ?_)
  rw [pX_text_2 (S := S) (0)] at hP hD
  have hX_1 : XI (setF S 57 2 (0)) := XI.sF hX _ ⟨by omega, by omega, by omega, by omega, by omega, by omega, by omega, by omega⟩
  have hF_2 : Fr (fun j k => (j = 57 ∧ (k = 2 ∨ k = 3 ∨ k = 4 ∨ k = 7 ∨ k = 8)) ∨ ((j = 59 ∨ j = 60) ∧ k = 99)) S (setF S 57 2 (0)) := Fr.sF (Fr.rf : Fr (fun j k => (j = 57 ∧ (k = 2 ∨ k = 3 ∨ k = 4 ∨ k = 7 ∨ k = 8)) ∨ ((j = 59 ∨ j = 60) ∧ k = 99)) S S) (by omega)
  refine lv_aload_n hx hb (fk_get fk_cX9_toCounter_0 3 rfl) rfl (lv_at hl 0 rfl) ?_
  refine lv_iconst (v := 5) hx hb (fk_get fk_cX9_toCounter_0 4 rfl) (by decide) ?_
  refine va_put (D := G.1) (ci := 11) (v := .int (5)) (ty := .int) (C := RX9) (T := TX9) (N := 9) hx hb hT inX9 tyX9 tyX9_ok nmX9 hown hK hP hD hS 57 (ix_at (lt71 (by omega)) (cX_text G ad (setF S 57 2 (0)))) rfl 3 (by decide) (hT _ m2_7) (fun _ h9 => h9) rfl (by decide +kernel) rfl rfl (Nat.le_of_ble_eq_true rfl) (fk_get fk_cX9_toCounter_0 5 rfl) (fun H locs hP hD hS => ?_)
  rw [pX_text_3 (S := (setF S 57 2 (0))) (5)] at hP hD
  have hX_3 : XI (setF (setF S 57 2 (0)) 57 3 (5)) := XI.sF hX_1 _ ⟨by omega, by omega, by omega, by omega, by omega, by omega, by omega, by omega⟩
  have hF_4 : Fr (fun j k => (j = 57 ∧ (k = 2 ∨ k = 3 ∨ k = 4 ∨ k = 7 ∨ k = 8)) ∨ ((j = 59 ∨ j = 60) ∧ k = 99)) S (setF (setF S 57 2 (0)) 57 3 (5)) := Fr.sF hF_2 (by omega)
  refine lv_aload_n hx hb (fk_get fk_cX9_toCounter_0 6 rfl) rfl (lv_at hl 0 rfl) ?_
  refine lv_iconst (v := 1) hx hb (fk_get fk_cX9_toCounter_0 7 rfl) (by decide) ?_
  refine va_put (D := G.1) (ci := 11) (v := .int (1)) (ty := .int) (C := RX9) (T := TX9) (N := 9) hx hb hT inX9 tyX9 tyX9_ok nmX9 hown hK hP hD hS 57 (ix_at (lt71 (by omega)) (cX_text G ad (setF (setF S 57 2 (0)) 57 3 (5)))) rfl 4 (by decide) (hT _ m2_9) (fun _ h9 => h9) rfl (by decide +kernel) rfl rfl (Nat.le_of_ble_eq_true rfl) (fk_get fk_cX9_toCounter_0 8 rfl) (fun H locs hP hD hS => ?_)
  rw [pX_text_4 (S := (setF (setF S 57 2 (0)) 57 3 (5))) (1)] at hP hD
  have hX_5 : XI (setF (setF (setF S 57 2 (0)) 57 3 (5)) 57 4 (1)) := XI.sF hX_3 _ ⟨by omega, by omega, by omega, by omega, by omega, by omega, by omega, by omega⟩
  have hF_6 : Fr (fun j k => (j = 57 ∧ (k = 2 ∨ k = 3 ∨ k = 4 ∨ k = 7 ∨ k = 8)) ∨ ((j = 59 ∨ j = 60) ∧ k = 99)) S (setF (setF (setF S 57 2 (0)) 57 3 (5)) 57 4 (1)) := Fr.sF hF_4 (by omega)
  refine lv_aload_n hx hb (fk_get fk_cX9_toCounter_0 9 rfl) rfl (lv_at hl 0 rfl) ?_
  refine lv_iconst (v := 0) hx hb (fk_get fk_cX9_toCounter_0 10 rfl) (by decide) ?_
  refine va_put (D := G.1) (ci := 11) (v := .int (0)) (ty := .int) (C := RX9) (T := TX9) (N := 9) hx hb hT inX9 tyX9 tyX9_ok nmX9 hown hK hP hD hS 57 (ix_at (lt71 (by omega)) (cX_text G ad (setF (setF (setF S 57 2 (0)) 57 3 (5)) 57 4 (1)))) rfl 7 (by decide) (hT _ m2_15) (fun _ h9 => h9) rfl (by decide +kernel) rfl rfl (Nat.le_of_ble_eq_true rfl) (fk_get fk_cX9_toCounter_0 11 rfl) (fun H locs hP hD hS => ?_)
  rw [pX_text_7 (S := (setF (setF (setF S 57 2 (0)) 57 3 (5)) 57 4 (1))) (0)] at hP hD
  have hX_7 : XI (setF (setF (setF (setF S 57 2 (0)) 57 3 (5)) 57 4 (1)) 57 7 (0)) := XI.cc (n := 0) hX_5 (by omega)
  have hF_8 : Fr (fun j k => (j = 57 ∧ (k = 2 ∨ k = 3 ∨ k = 4 ∨ k = 7 ∨ k = 8)) ∨ ((j = 59 ∨ j = 60) ∧ k = 99)) S (setF (setF (setF (setF S 57 2 (0)) 57 3 (5)) 57 4 (1)) 57 7 (0)) := Fr.sF hF_6 (by omega)
  refine lv_iconst (v := 0) hx hb (fk_get fk_cX9_toCounter_0 12 rfl) (by decide) ?_
  refine lv_istore_n (lv' := [(1, .int (0)), (0, .ref (ad 57))]) hx hb (fk_get fk_cX9_toCounter_0 13 rfl) rfl hl (by decide) rfl (fun ls hl => ?_)
  have lp_9 : ∀ (fu : Nat) (k q : Nat) (C : Cls) (SL22 : FS) (H_11 : Heap) (locs_12 : List Loc) (ls : Array Slot),  (XI SL22) → (Fr (fun j k => (j = 57 ∧ (k = 2 ∨ k = 3 ∨ k = 4 ∨ k = 7 ∨ k = 8)) ∨ ((j = 59 ∨ j = 60) ∧ k = 99)) S SL22) → (k ≤ 10) → (10 < k + fu) → (TXz SL22 z τ) → (fF SL22 57 2 = nI q) → (q ≤ z) → ((cds C).length ≤ q) → (CdP S SL22 0 (cds C)) → (fF SL22 57 3 = lstW 2 5 C) → (fF SL22 57 4 = lstW 3 1 C) → (cntL cdA τ z (10 - k) (decide (k = 0)) C q = cntP cdA τ z) → va_P G.1 vwCl (wX G ad SL22) H_11 → va_D A (wX G ad SL22) → va_S A s.heap H_11 locs_12 → lv_has ls 3 [(1, .int ((nI k))), (0, .ref (ad 57))] → W p l e ({ frames := 23, cells := 3, slots := 204, locals := 619 } : Room) s m args below meth c₀ H_11 locs_12 0 0 Q (F0 m 22 ls []) := by
    intro fu
    induction fu with
    | zero =>
      intro k q C SL22 H_11 locs_12 ls hXl22 hFl22 hk hf hTl hql hqz hLq hCl h3 h4 hJ hP hD hS hl
      exact absurd hf (by omega)
    | succ fu ih =>
      intro k q C SL22 H_11 locs_12 ls hXl22 hFl22 hk hf hTl hql hqz hLq hCl h3 h4 hJ hP hD hS hl
      refine lv_iload_n hx hb (fk_get fk_cX9_toCounter_0 14 rfl) rfl (lv_at hl 0 rfl) ?_
      refine lv_bipush (v := 10) hx hb (fk_get fk_cX9_toCounter_0 15 rfl) (by decide) ?_
      refine lv_icmp_ge (tgt := 86) hx hb (fk_get fk_cX9_toCounter_0 16 rfl) (by decide) (fun c_13 => ?_) (fun c_13 => ?_)
      · have q_c_13 : 10 ≤ k := ci_le (a := 10) (b := k) (by omega) (by omega) c_13
        refine lv_null hx hb (fk_get fk_cX9_toCounter_1 14 rfl) ?_
        subst hQ
        have hpost : XI SL22 ∧ Fr (fun j k => (j = 57 ∧ (k = 2 ∨ k = 3 ∨ k = 4 ∨ k = 7 ∨ k = 8)) ∨ ((j = 59 ∨ j = 60) ∧ k = 99)) S SL22 ∧ (∀ j, j < 71 + fC S → ad j = ad j) ∧ TcP τ z (none : Option Nat) SL22 ad := by
          exact ⟨hXl22, hFl22, (fun _ _ => rfl), (by first | exact ⟨by rw [hres]; show _ = nI (clP cdA τ q2).2; rw [heq]; exact hp76, Or.inr ⟨_, _, by rw [hres], rfl, hco76, hx76⟩⟩ | exact ⟨by rw [← hJ, hcc, thn_n e52]; exact hp52, Or.inl ⟨by rw [← hJ, hcc, thn_n e52], rfl⟩⟩ | exact ⟨by rw [← hJ, cnt_f (by omega) hk0 n35]; exact hp35, Or.inl ⟨by rw [← hJ, cnt_f (by omega) hk0 n35], rfl⟩⟩ | exact ⟨by rw [← hJ, show 10 - k = 0 by omega]; exact hql, Or.inl ⟨by rw [← hJ, show 10 - k = 0 by omega]; rfl, rfl⟩⟩)⟩
        refine W.widen (k := 3) (n := 204) (by omega) (by omega) ?_
        exact W.aret hx hb hr (Or.inl ⟨_, rfl⟩) (Or.inl rfl) (fun t_ ht_ hW_ => ⟨⟨none, (SL22, ad), rfl, hpost, by rw [ht_]; exact hP, va_K.moved hW_.alike hK, hD⟩, hS.F ht_⟩) hS.2.2 (fk_get fk_cX9_toCounter_1 15 rfl)
      have q_c_13 : k < 10 := ci_nle (a := 10) (b := k) (by omega) (by omega) c_13
      refine lv_iload_n hx hb (fk_get fk_cX9_toCounter_0 17 rfl) rfl (lv_at hl 0 rfl) ?_
      refine lv_if_eq (tgt := 41) hx hb (fk_get fk_cX9_toCounter_0 18 rfl) (by decide) (fun c_14 => ?_) (fun c_14 => ?_)
      · have hk0 : k = 0 := (nI_eq (a := k) (b := 0) (by omega) (by omega)).mp c_14
        refine lv_iconst (v := 1) hx hb (fk_get fk_cX9_toCounter_0 23 rfl) (by decide) ?_
        refine lv_goto (tgt := 46) hx hb (fk_get fk_cX9_toCounter_0 24 rfl) (by decide) ?_
        refine lv_istore_n (lv' := [(2, .int (1)), (1, .int ((nI k))), (0, .ref (ad 57))]) hx hb (fk_get fk_cX9_toCounter_0 26 rfl) rfl hl (by decide) rfl (fun ls hl => ?_)
        refine lv_iload_n hx hb (fk_get fk_cX9_toCounter_0 27 rfl) rfl (lv_at hl 0 rfl) ?_
        refine lv_if_eq (tgt := 58) hx hb (fk_get fk_cX9_toCounter_0 28 rfl) (by decide) (fun c_15 => absurd c_15 ((by decide))) (fun _ => ?_)
        refine lv_aload_n hx hb (fk_get fk_cX9_toCounter_0 29 rfl) rfl (lv_at hl 2 rfl) ?_
        have hFc := va_self hD hS hA
        refine va_calli (va_runV (As := []) (rest := []) ⟨hx, hb, hml, hown, hT⟩ (c_x9_clauseE l G ad SL22 H_11.size (z) (q) (0 + (cds C).length) (τ) (by first | assumption | omega) (by first | assumption | omega) (by first | assumption | omega) (by first | exact hc35 | exact hCl.1) (by first | assumption | omega) (hXl22)) (tV 0 hT m2_221 m2_223 mp_2 m1_12 m2_224 rfl rfl (by decide +kernel) ⟨Nat.le_of_ble_eq_true rfl, Nat.le_of_ble_eq_true rfl⟩) ⟨PcE_blind, va_recv hK hP (ci := 11) (q0 := 57) rfl (ix_at (lt71 (by omega)) (cX_text G ad SL22)), PcE_of hP hK hD hE hS (fun q h => hFc q h) _⟩ rfl rfl hl.1 rfl (lv_room (Nat.le_of_ble_eq_true rfl)) (fk_get fk_cX9_toCounter_0 30 rfl) ⟨Nat.zero_le _, Nat.zero_le _⟩) hS (fun q _ h => hFc q h) hFc (fun r_16 S_18 t_ H locs ht_ hvm_ hw_17 hB_ hz_ hk_ hS => ?_)
        obtain ⟨hP, -, hD1_⟩ := hB_
        rw [ht_] at hP
        have hD : va_D A (wX G ad S_18) := hD1_.weaken (fun k q _ h => hFc q.1 h)
        try dsimp only at hw_17
        obtain ⟨hX_19, hF_20_, hw_17⟩ := hw_17
        have hF_20 : Fr (fun j k => (j = 57 ∧ (k = 2 ∨ k = 3 ∨ k = 4 ∨ k = 7 ∨ k = 8)) ∨ ((j = 59 ∨ j = 60) ∧ k = 99)) S S_18 := Fr.trans hFl22 (Fr.mono hF_20_ (fun j k h => by omega))
        have hK52 := hw_17
        have hf52 := hF_20_
        have hcc := cnt_c (A := cdA) (z := z) (τ := τ) (C := C) (k := k) (q := q) (q' := q) (by omega) (Or.inl ⟨hk0, rfl⟩)
        obtain ⟨g1, g2, g3⟩ := hTx.cl (p := q) (by omega)
        obtain ⟨q2, hq2⟩ : ∃ y, y = q := ⟨_, rfl⟩
        rw [← hq2] at hK52 hcc g1 g2 g3 hJ
        have hT52 := hTl.fr hF_20_ (fun q => by omega) (fun q => by omega)
        have hl52 : fF S_18 57 1 = nI z := hT52.1
        have hCq := hCl
        have h3q := h3
        have h4q := h4
        refine lv_if_ne (tgt := 60) hx hb (fk_get fk_cX9_toCounter_0 31 rfl) (by decide) (fun c_21 => ?_) (fun c_21 => ?_)
        · obtain ⟨x52, e52, hp52, hC52, h352, h452⟩ := clo_y hK52 c_21
          have g4 := g3 x52 e52
          have hCn : CdP S S_18 0 (cds (C ++ [x52])) := by rw [cds_app]; exact hCq.app hC52
          have h3n : fF S_18 57 3 = lstW 2 5 (C ++ [x52]) := by rw [lst_1, h352, h3q]
          have h4n : fF S_18 57 4 = lstW 3 1 (C ++ [x52]) := by rw [lst_1, h452, h4q]
          have hln : (cds (C ++ [x52])).length ≤ (clP cdA τ q2).2 := by rw [cds_app, List.length_append]; omega
          refine lv_aload_n hx hb (fk_get fk_cX9_toCounter_1 2 rfl) rfl (lv_at hl 2 rfl) ?_
          refine va_get (D := G.1) (ci := 11) (v := .int (fF S_18 57 2)) (C := RX9) (T := TX9) (N := 9) hx hb hT inX9 hown hK hP 57 (ix_at (lt71 (by omega)) (cX_text G ad S_18)) rfl 2 (by decide) (hT _ m2_5) (fun _ h9 => h9) rfl (fk_get fk_cX9_toCounter_1 3 rfl) ?_
          rw [show (fF S_18 57 2) = (nI (clP cdA τ q2).2) from hp52]
          refine lv_aload_n hx hb (fk_get fk_cX9_toCounter_1 4 rfl) rfl (lv_at hl 2 rfl) ?_
          refine va_get (D := G.1) (ci := 11) (v := .int (fF S_18 57 1)) (C := RX9) (T := TX9) (N := 9) hx hb hT inX9 hown hK hP 57 (ix_at (lt71 (by omega)) (cX_text G ad S_18)) rfl 1 (by decide) (hT _ m2_3) (fun _ h9 => h9) rfl (fk_get fk_cX9_toCounter_1 5 rfl) ?_
          rw [hl52]
          refine lv_icmp_ne (tgt := 80) hx hb (fk_get fk_cX9_toCounter_1 6 rfl) (by decide) (fun c_22 => ?_) (fun c_22 => ?_)
          · have hne : ¬ (clP cdA τ q2).2 = z := fun q_ => c_22 (by rw [q_])
            refine lv_iinc (v := (nI (k + 1))) (lv' := [(1, .int ((nI (k + 1)))), (2, .int (1)), (0, .ref (ad 57))]) hx hb (fk_get fk_cX9_toCounter_1 12 rfl) hl (k := 1) rfl ((nI_1 k)) (by decide) rfl (fun ls hl => ?_)
            refine lv_goto (tgt := 22) hx hb (fk_get fk_cX9_toCounter_1 13 rfl) (by decide) ?_
            exact ih (k + 1) ((clP cdA τ q2).2) ((C ++ [x52])) (S_18) _ _ ls (hX_19) (hF_20) (by omega) (by omega) (hT52) (hp52) (g2) (hln) (hCn) (h3n) (h4n) ((by rw [← hJ, hcc]; exact ((thn_s e52).trans (if_neg hne)).symm)) hP hD hS (lv_sub hl [0, 2] rfl)
          have heq : (clP cdA τ q2).2 = z := (nI_eq (by omega) (by omega)).mp (by first | exact c_22 | exact Decidable.not_not.mp c_22)
          have hres : cntP cdA τ z = (some (C ++ [x52]), (clP cdA τ q2).2) := by rw [← hJ, hcc]; exact (thn_s e52).trans (if_pos heq)
          refine va_new (ci := 3) (C := RX1) (T := TX1) (N := 4) (fs := [.int 0, .int 0, .null, .null]) hx hb hT inX1 tyX1 tyX1_ok hown (hT _ m3_135) (hT _ m1_108) (hT _ m1_10) hK hP hD hS hA rfl (fun j hj => by rcases (show j = 0 ∨ j = 1 ∨ j = 2 ∨ j = 3 by omega) with rfl | rfl | rfl | rfl <;> rfl) (Nat.le_of_ble_eq_true rfl) (Nat.le_of_ble_eq_true rfl) (fk_get fk_cX9_toCounter_1 7 rfl) (fun q_ H hP hD hS => ?_)
          obtain ⟨ad_24, hg_23_, hq_, hPn_, hDn_⟩ := xb 0 0 (fun _ => 0) (fun _ => 0) (fun _ => none) hX_19 (fun _ => rfl) hP hD
          subst hq_
          have hP := hPn_
          have hD := hDn_
          clear hPn_ hDn_
          obtain ⟨S_25, hS_25⟩ : ∃ T, T = gNew S_18 0 0 (fun _ => 0) (fun _ => 0) (fun _ => none) := ⟨_, rfl⟩
          rw [← hS_25] at hP hD
          have hX_26 : XI S_25 := by rw [hS_25]; exact XI.gnew hX_19 (by intro _ k p h; cases h)
          have hF_27_ : Fr (fun j _ => j = 0 ∧ j = 1) S_18 S_25 := by rw [hS_25]; exact gNew_fr
          have hF_27 : Fr (fun j k => (j = 57 ∧ (k = 2 ∨ k = 3 ∨ k = 4 ∨ k = 7 ∨ k = 8)) ∨ ((j = 59 ∨ j = 60) ∧ k = 99)) S S_25 := Fr.trans hF_20 (Fr.mono hF_27_ (fun j k h => by omega))
          have hg_23 : ∀ j, j < 71 + fC S → ad_24 j = ad j := fun j hj => (hg_23_ j (Nat.lt_of_lt_of_le hj (Nat.add_le_add_left (hF_20).1 71))).trans ((fun _ _ => rfl) j hj)
          obtain ⟨p_28, hp_28⟩ : ∃ p, p = 71 + fC S_18 := ⟨_, rfl⟩
          rw [← hp_28]
          have kp_28 : fK S_25 p_28 = 0 := by rw [hS_25, hp_28]; exact gNew_K _ _ _ _ _ _
          have np_28 : fN S_25 p_28 = 0 := by rw [hS_25, hp_28]; exact gNew_N _ _ _ _ _ _
          have rp_28 : fR S_25 p_28 = (fun _ => none) := by rw [hS_25, hp_28]; exact gNew_R _ _ _ _ _ _
          have cp_28 : fC S_25 = fC S_18 + 1 := by rw [hS_25]; rfl
          have lp_28 : p_28 < 71 + fC S_25 := by omega
          have ep_28 : 71 + fC S ≤ p_28 := by have hc_ := (hF_20).1; omega
          have hl : lv_has ls 3 [(2, .int (1)), (1, .int ((nI k))), (0, .ref (ad_24 57))] := by rw [hg_23_ 57 ((lt71 (by omega)))]; exact hl
          have nsp_28 : noSh S_25 p_28 := by rw [hp_28]; exact (noSh.new hX_19).fr hF_27_ (by omega)
          refine lv_dup hx hb (fk_get fk_cX9_toCounter_1 8 rfl) rfl ?_
          refine lv_aload_n hx hb (fk_get fk_cX9_toCounter_1 9 rfl) rfl (lv_at hl 2 rfl) ?_
          have hFc := va_self hD hS hA
          refine va_callv (va_runI (As := [.ref (ad_24 57)]) (rest := [.ref (ad_24 p_28)]) ⟨hx, hb, hml, hown, hT⟩ (c_x1_initE l G ad_24 S_25 H.size (p_28) (cds (C ++ [x52])) ((show 71 ≤ p_28 by omega)) (lp_28) (kp_28) (nsp_28) (((hF_27_).F (lt71 (by omega)) (by omega)).trans (by rw [hCn.1, Nat.zero_add])) (by omega) (fun i hi => by rw [(hF_27_).A (j := 59) (lt71 (by omega)) (by omega), (hF_27_).A (j := 60) (lt71 (by omega)) (by omega)]; have q_ := hCn.2.2 i hi; rw [Nat.zero_add] at q_; exact q_) (hX_26)) (tI 1 hT m3_136 m3_137 m1_10 m3_138 rfl rfl rfl (by decide +kernel) ⟨Nat.le_of_ble_eq_true rfl, Nat.le_of_ble_eq_true rfl⟩) ⟨PcE_blind, PcE_of hP hK hD hE hS (fun q h => hFc q h) _⟩ rfl rfl hl.1 rfl (lv_room (Nat.le_of_ble_eq_true rfl)) (fk_get fk_cX9_toCounter_1 10 rfl) ⟨(by show (0 + 1) + 2 ≤ 3; omega), (by show (0 + 4) + 200 ≤ 204; omega)⟩) hS (fun q _ h => hFc q h) hFc (fun u_ t_ H locs ht_ hvm_ hw_30 hB_ hz_ hk_ hS => ?_)
          obtain ⟨S_31, ad_32⟩ := u_
          dsimp only at hB_ hw_30
          obtain ⟨hP, -, hD1_⟩ := hB_
          rw [ht_] at hP
          have hD : va_D A (wX G ad_32 S_31) := hD1_.weaken (fun k q _ h => hFc q.1 h)
          obtain ⟨hX_33, hF_34_, hg_35_, hw_30⟩ := hw_30
          have hg_35 : ∀ j, j < 71 + fC S → ad_32 j = ad j := fun j hj => (hg_35_ j (Nat.lt_of_lt_of_le hj (Nat.add_le_add_left (hF_27).1 71))).trans (hg_23 j hj)
          have hF_34 : Fr (fun j k => (j = 57 ∧ (k = 2 ∨ k = 3 ∨ k = 4 ∨ k = 7 ∨ k = 8)) ∨ ((j = 59 ∨ j = 60) ∧ k = 99)) S S_31 := Fr.tr hF_27 hF_34_ (fun j k hj h => by have hc_ := (hF_27).1; omega)
          have hl : lv_has ls 3 [(2, .int (1)), (1, .int ((nI k))), (0, .ref (ad_32 57))] := by rw [hg_35_ 57 ((lt71 (by omega)))]; exact hl
          rw [← hg_35_ p_28 lp_28]
          obtain ⟨hx76, hco76⟩ := hw_30
          have hfi := hF_34_
          have hp76 : fF S_31 57 2 = nI z := (hfi.F (lt71 (by omega)) (fun q => by omega)).trans ((hF_27_.F (lt71 (by omega)) (by omega)).trans (by rw [hp52, heq]))
          rw [(hF_27_.F (j := 57) (k := 3) (lt71 (by omega)) (by omega)).trans h3n, (hF_27_.F (j := 57) (k := 4) (lt71 (by omega)) (by omega)).trans h4n] at hx76
          subst hQ
          have hpost : XI S_31 ∧ Fr (fun j k => (j = 57 ∧ (k = 2 ∨ k = 3 ∨ k = 4 ∨ k = 7 ∨ k = 8)) ∨ ((j = 59 ∨ j = 60) ∧ k = 99)) S S_31 ∧ (∀ j, j < 71 + fC S → ad_32 j = ad j) ∧ TcP τ z ((some (ad_32 p_28)) : Option Nat) S_31 ad_32 := by
            exact ⟨hX_33, hF_34, hg_35, (by first | exact ⟨by rw [hres]; show _ = nI (clP cdA τ q2).2; rw [heq]; exact hp76, Or.inr ⟨_, _, by rw [hres], rfl, hco76, hx76⟩⟩ | exact ⟨by rw [← hJ, hcc, thn_n e52]; exact hp52, Or.inl ⟨by rw [← hJ, hcc, thn_n e52], rfl⟩⟩ | exact ⟨by rw [← hJ, cnt_f (by omega) hk0 n35]; exact hp35, Or.inl ⟨by rw [← hJ, cnt_f (by omega) hk0 n35], rfl⟩⟩ | exact ⟨by rw [← hJ, show 10 - k = 0 by omega]; exact hql, Or.inl ⟨by rw [← hJ, show 10 - k = 0 by omega]; rfl, rfl⟩⟩)⟩
          refine W.widen (k := 3) (n := 204) (by omega) (by omega) ?_
          exact W.aret hx hb hr (Or.inl ⟨_, rfl⟩) (Or.inr ⟨_, rfl⟩) (fun t_ ht_ hW_ => ⟨⟨(some (ad_32 p_28)), (S_31, ad_32), rfl, hpost, by rw [ht_]; exact hP, va_K.moved hW_.alike hK, hD⟩, hS.F ht_⟩) hS.2.2 (fk_get fk_cX9_toCounter_1 11 rfl)
        obtain ⟨e52, hp52⟩ := clo_n hK52 (by assumption)
        refine lv_null hx hb (fk_get fk_cX9_toCounter_1 0 rfl) ?_
        subst hQ
        have hpost : XI S_18 ∧ Fr (fun j k => (j = 57 ∧ (k = 2 ∨ k = 3 ∨ k = 4 ∨ k = 7 ∨ k = 8)) ∨ ((j = 59 ∨ j = 60) ∧ k = 99)) S S_18 ∧ (∀ j, j < 71 + fC S → ad j = ad j) ∧ TcP τ z (none : Option Nat) S_18 ad := by
          exact ⟨hX_19, hF_20, (fun _ _ => rfl), (by first | exact ⟨by rw [hres]; show _ = nI (clP cdA τ q2).2; rw [heq]; exact hp76, Or.inr ⟨_, _, by rw [hres], rfl, hco76, hx76⟩⟩ | exact ⟨by rw [← hJ, hcc, thn_n e52]; exact hp52, Or.inl ⟨by rw [← hJ, hcc, thn_n e52], rfl⟩⟩ | exact ⟨by rw [← hJ, cnt_f (by omega) hk0 n35]; exact hp35, Or.inl ⟨by rw [← hJ, cnt_f (by omega) hk0 n35], rfl⟩⟩ | exact ⟨by rw [← hJ, show 10 - k = 0 by omega]; exact hql, Or.inl ⟨by rw [← hJ, show 10 - k = 0 by omega]; rfl, rfl⟩⟩)⟩
        refine W.widen (k := 3) (n := 204) (by omega) (by omega) ?_
        exact W.aret hx hb hr (Or.inl ⟨_, rfl⟩) (Or.inl rfl) (fun t_ ht_ hW_ => ⟨⟨none, (S_18, ad), rfl, hpost, by rw [ht_]; exact hP, va_K.moved hW_.alike hK, hD⟩, hS.F ht_⟩) hS.2.2 (fk_get fk_cX9_toCounter_1 1 rfl)
      have hk0 : ¬ k = 0 := fun q_ => c_14 (by rw [q_]; rfl)
      refine lv_aload_n hx hb (fk_get fk_cX9_toCounter_0 19 rfl) rfl (lv_at hl 1 rfl) ?_
      refine lv_bipush (v := 59) hx hb (fk_get fk_cX9_toCounter_0 20 rfl) (by decide) ?_
      have hFc := va_self hD hS hA
      refine va_calli (va_runV (As := [.int (59)]) (rest := []) ⟨hx, hb, hml, hown, hT⟩ (c_x9_takesE l G ad SL22 H_11.size (z) (q) (59) (τ) (by first | assumption | omega) (by first | assumption | omega) (by first | assumption | omega) (hXl22)) (tV 1 hT m2_213 m2_215 mp_0 m1_12 m2_216 rfl rfl (by decide +kernel) ⟨Nat.le_of_ble_eq_true rfl, Nat.le_of_ble_eq_true rfl⟩) ⟨PcW_blind, va_recv hK hP (ci := 11) (q0 := 57) rfl (ix_at (lt71 (by omega)) (cX_text G ad SL22)), PcW_of hP hK hD _⟩ rfl rfl hl.1 rfl (lv_room (Nat.le_of_ble_eq_true rfl)) (fk_get fk_cX9_toCounter_0 21 rfl) ⟨Nat.zero_le _, Nat.zero_le _⟩) hS (fun q _ h => hFc q h) hFc (fun r_36 S_38 t_ H locs ht_ hvm_ hw_37 hB_ hz_ hk_ hS => ?_)
      obtain ⟨hP, -, hD1_⟩ := hB_
      rw [ht_] at hP
      have hD : va_D A (wX G ad S_38) := hD1_.weaken (fun k q _ h => hFc q.1 h)
      try dsimp only at hw_37
      obtain ⟨hX_39, hF_40_, hw_37⟩ := hw_37
      have hF_40 : Fr (fun j k => (j = 57 ∧ (k = 2 ∨ k = 3 ∨ k = 4 ∨ k = 7 ∨ k = 8)) ∨ ((j = 59 ∨ j = 60) ∧ k = 99)) S S_38 := Fr.trans hFl22 (Fr.mono hF_40_ (fun j k h => by omega))
      have hK35 := hw_37
      have hf35 := hF_40_
      have hT35 := hTl.fr hF_40_ (fun q => by omega) (fun q => by omega)
      have hc35 := (Fr.F hF_40_ (j := 57) (k := 7) (lt71 (by omega)) (fun q => by omega)).trans hCl.1
      refine lv_if_eq (tgt := 45) hx hb (fk_get fk_cX9_toCounter_0 22 rfl) (by decide) (fun c_41 => ?_) (fun c_41 => ?_)
      · obtain ⟨n35, hp35⟩ := tk_n hK35 c_41
        refine lv_iconst (v := 0) hx hb (fk_get fk_cX9_toCounter_0 25 rfl) (by decide) ?_
        refine lv_istore_n (lv' := [(2, .int (0)), (1, .int ((nI k))), (0, .ref (ad 57))]) hx hb (fk_get fk_cX9_toCounter_0 26 rfl) rfl hl (by decide) rfl (fun ls hl => ?_)
        refine lv_iload_n hx hb (fk_get fk_cX9_toCounter_0 27 rfl) rfl (lv_at hl 0 rfl) ?_
        refine lv_if_eq (tgt := 58) hx hb (fk_get fk_cX9_toCounter_0 28 rfl) (by decide) (fun _ => ?_) (fun c_42 => absurd ((by decide)) c_42)
        refine lv_null hx hb (fk_get fk_cX9_toCounter_1 0 rfl) ?_
        subst hQ
        have hpost : XI S_38 ∧ Fr (fun j k => (j = 57 ∧ (k = 2 ∨ k = 3 ∨ k = 4 ∨ k = 7 ∨ k = 8)) ∨ ((j = 59 ∨ j = 60) ∧ k = 99)) S S_38 ∧ (∀ j, j < 71 + fC S → ad j = ad j) ∧ TcP τ z (none : Option Nat) S_38 ad := by
          exact ⟨hX_39, hF_40, (fun _ _ => rfl), (by first | exact ⟨by rw [hres]; show _ = nI (clP cdA τ q2).2; rw [heq]; exact hp76, Or.inr ⟨_, _, by rw [hres], rfl, hco76, hx76⟩⟩ | exact ⟨by rw [← hJ, hcc, thn_n e52]; exact hp52, Or.inl ⟨by rw [← hJ, hcc, thn_n e52], rfl⟩⟩ | exact ⟨by rw [← hJ, cnt_f (by omega) hk0 n35]; exact hp35, Or.inl ⟨by rw [← hJ, cnt_f (by omega) hk0 n35], rfl⟩⟩ | exact ⟨by rw [← hJ, show 10 - k = 0 by omega]; exact hql, Or.inl ⟨by rw [← hJ, show 10 - k = 0 by omega]; rfl, rfl⟩⟩)⟩
        refine W.widen (k := 3) (n := 204) (by omega) (by omega) ?_
        exact W.aret hx hb hr (Or.inl ⟨_, rfl⟩) (Or.inl rfl) (fun t_ ht_ hW_ => ⟨⟨none, (S_38, ad), rfl, hpost, by rw [ht_]; exact hP, va_K.moved hW_.alike hK, hD⟩, hS.F ht_⟩) hS.2.2 (fk_get fk_cX9_toCounter_1 1 rfl)
      obtain ⟨h35, hp35⟩ := tk_y hK35 c_41
      have hz35 := hTx.lt h35 (by decide)
      refine lv_iconst (v := 1) hx hb (fk_get fk_cX9_toCounter_0 23 rfl) (by decide) ?_
      refine lv_goto (tgt := 46) hx hb (fk_get fk_cX9_toCounter_0 24 rfl) (by decide) ?_
      refine lv_istore_n (lv' := [(2, .int (1)), (1, .int ((nI k))), (0, .ref (ad 57))]) hx hb (fk_get fk_cX9_toCounter_0 26 rfl) rfl hl (by decide) rfl (fun ls hl => ?_)
      refine lv_iload_n hx hb (fk_get fk_cX9_toCounter_0 27 rfl) rfl (lv_at hl 0 rfl) ?_
      refine lv_if_eq (tgt := 58) hx hb (fk_get fk_cX9_toCounter_0 28 rfl) (by decide) (fun c_43 => absurd c_43 ((by decide))) (fun _ => ?_)
      refine lv_aload_n hx hb (fk_get fk_cX9_toCounter_0 29 rfl) rfl (lv_at hl 2 rfl) ?_
      have hFc := va_self hD hS hA
      refine va_calli (va_runV (As := []) (rest := []) ⟨hx, hb, hml, hown, hT⟩ (c_x9_clauseE l G ad S_38 H.size (z) (q + 1) (0 + (cds C).length) (τ) (by first | assumption | omega) (by first | assumption | omega) (by first | assumption | omega) (by first | exact hc35 | exact hCl.1) (by first | assumption | omega) (hX_39)) (tV 0 hT m2_221 m2_223 mp_2 m1_12 m2_224 rfl rfl (by decide +kernel) ⟨Nat.le_of_ble_eq_true rfl, Nat.le_of_ble_eq_true rfl⟩) ⟨PcE_blind, va_recv hK hP (ci := 11) (q0 := 57) rfl (ix_at (lt71 (by omega)) (cX_text G ad S_38)), PcE_of hP hK hD hE hS (fun q h => hFc q h) _⟩ rfl rfl hl.1 rfl (lv_room (Nat.le_of_ble_eq_true rfl)) (fk_get fk_cX9_toCounter_0 30 rfl) ⟨Nat.zero_le _, Nat.zero_le _⟩) hS (fun q _ h => hFc q h) hFc (fun r_44 S_46 t_ H locs ht_ hvm_ hw_45 hB_ hz_ hk_ hS => ?_)
      obtain ⟨hP, -, hD1_⟩ := hB_
      rw [ht_] at hP
      have hD : va_D A (wX G ad S_46) := hD1_.weaken (fun k q _ h => hFc q.1 h)
      try dsimp only at hw_45
      obtain ⟨hX_47, hF_48_, hw_45⟩ := hw_45
      have hF_48 : Fr (fun j k => (j = 57 ∧ (k = 2 ∨ k = 3 ∨ k = 4 ∨ k = 7 ∨ k = 8)) ∨ ((j = 59 ∨ j = 60) ∧ k = 99)) S S_46 := Fr.trans hF_40 (Fr.mono hF_48_ (fun j k h => by omega))
      have hK52 := hw_45
      have hf52 := hF_48_
      have hcc := cnt_c (A := cdA) (z := z) (τ := τ) (C := C) (k := k) (q := q) (q' := q + 1) (by omega) (Or.inr ⟨hk0, h35, rfl⟩)
      obtain ⟨g1, g2, g3⟩ := hTx.cl (p := q + 1) (by omega)
      obtain ⟨q2, hq2⟩ : ∃ y, y = q + 1 := ⟨_, rfl⟩
      rw [← hq2] at hK52 hcc g1 g2 g3
      have hT52 := hT35.fr hF_48_ (fun q => by omega) (fun q => by omega)
      have hl52 : fF S_46 57 1 = nI z := hT52.1
      have hCq := hCl.keep hf35 (fun q => by omega) (fun q => by omega) (fun q => by omega)
      have h3q := (hf35.F (j := 57) (k := 3) (lt71 (by omega)) (fun q => by omega)).trans h3
      have h4q := (hf35.F (j := 57) (k := 4) (lt71 (by omega)) (fun q => by omega)).trans h4
      refine lv_if_ne (tgt := 60) hx hb (fk_get fk_cX9_toCounter_0 31 rfl) (by decide) (fun c_49 => ?_) (fun c_49 => ?_)
      · obtain ⟨x52, e52, hp52, hC52, h352, h452⟩ := clo_y hK52 c_49
        have g4 := g3 x52 e52
        have hCn : CdP S S_46 0 (cds (C ++ [x52])) := by rw [cds_app]; exact hCq.app hC52
        have h3n : fF S_46 57 3 = lstW 2 5 (C ++ [x52]) := by rw [lst_1, h352, h3q]
        have h4n : fF S_46 57 4 = lstW 3 1 (C ++ [x52]) := by rw [lst_1, h452, h4q]
        have hln : (cds (C ++ [x52])).length ≤ (clP cdA τ q2).2 := by rw [cds_app, List.length_append]; omega
        refine lv_aload_n hx hb (fk_get fk_cX9_toCounter_1 2 rfl) rfl (lv_at hl 2 rfl) ?_
        refine va_get (D := G.1) (ci := 11) (v := .int (fF S_46 57 2)) (C := RX9) (T := TX9) (N := 9) hx hb hT inX9 hown hK hP 57 (ix_at (lt71 (by omega)) (cX_text G ad S_46)) rfl 2 (by decide) (hT _ m2_5) (fun _ h9 => h9) rfl (fk_get fk_cX9_toCounter_1 3 rfl) ?_
        rw [show (fF S_46 57 2) = (nI (clP cdA τ q2).2) from hp52]
        refine lv_aload_n hx hb (fk_get fk_cX9_toCounter_1 4 rfl) rfl (lv_at hl 2 rfl) ?_
        refine va_get (D := G.1) (ci := 11) (v := .int (fF S_46 57 1)) (C := RX9) (T := TX9) (N := 9) hx hb hT inX9 hown hK hP 57 (ix_at (lt71 (by omega)) (cX_text G ad S_46)) rfl 1 (by decide) (hT _ m2_3) (fun _ h9 => h9) rfl (fk_get fk_cX9_toCounter_1 5 rfl) ?_
        rw [hl52]
        refine lv_icmp_ne (tgt := 80) hx hb (fk_get fk_cX9_toCounter_1 6 rfl) (by decide) (fun c_50 => ?_) (fun c_50 => ?_)
        · have hne : ¬ (clP cdA τ q2).2 = z := fun q_ => c_50 (by rw [q_])
          refine lv_iinc (v := (nI (k + 1))) (lv' := [(1, .int ((nI (k + 1)))), (2, .int (1)), (0, .ref (ad 57))]) hx hb (fk_get fk_cX9_toCounter_1 12 rfl) hl (k := 1) rfl ((nI_1 k)) (by decide) rfl (fun ls hl => ?_)
          refine lv_goto (tgt := 22) hx hb (fk_get fk_cX9_toCounter_1 13 rfl) (by decide) ?_
          exact ih (k + 1) ((clP cdA τ q2).2) ((C ++ [x52])) (S_46) _ _ ls (hX_47) (hF_48) (by omega) (by omega) (hT52) (hp52) (g2) (hln) (hCn) (h3n) (h4n) ((by rw [← hJ, hcc]; exact ((thn_s e52).trans (if_neg hne)).symm)) hP hD hS (lv_sub hl [0, 2] rfl)
        have heq : (clP cdA τ q2).2 = z := (nI_eq (by omega) (by omega)).mp (by first | exact c_50 | exact Decidable.not_not.mp c_50)
        have hres : cntP cdA τ z = (some (C ++ [x52]), (clP cdA τ q2).2) := by rw [← hJ, hcc]; exact (thn_s e52).trans (if_pos heq)
        refine va_new (ci := 3) (C := RX1) (T := TX1) (N := 4) (fs := [.int 0, .int 0, .null, .null]) hx hb hT inX1 tyX1 tyX1_ok hown (hT _ m3_135) (hT _ m1_108) (hT _ m1_10) hK hP hD hS hA rfl (fun j hj => by rcases (show j = 0 ∨ j = 1 ∨ j = 2 ∨ j = 3 by omega) with rfl | rfl | rfl | rfl <;> rfl) (Nat.le_of_ble_eq_true rfl) (Nat.le_of_ble_eq_true rfl) (fk_get fk_cX9_toCounter_1 7 rfl) (fun q_ H hP hD hS => ?_)
        obtain ⟨ad_52, hg_51_, hq_, hPn_, hDn_⟩ := xb 0 0 (fun _ => 0) (fun _ => 0) (fun _ => none) hX_47 (fun _ => rfl) hP hD
        subst hq_
        have hP := hPn_
        have hD := hDn_
        clear hPn_ hDn_
        obtain ⟨S_53, hS_53⟩ : ∃ T, T = gNew S_46 0 0 (fun _ => 0) (fun _ => 0) (fun _ => none) := ⟨_, rfl⟩
        rw [← hS_53] at hP hD
        have hX_54 : XI S_53 := by rw [hS_53]; exact XI.gnew hX_47 (by intro _ k p h; cases h)
        have hF_55_ : Fr (fun j _ => j = 0 ∧ j = 1) S_46 S_53 := by rw [hS_53]; exact gNew_fr
        have hF_55 : Fr (fun j k => (j = 57 ∧ (k = 2 ∨ k = 3 ∨ k = 4 ∨ k = 7 ∨ k = 8)) ∨ ((j = 59 ∨ j = 60) ∧ k = 99)) S S_53 := Fr.trans hF_48 (Fr.mono hF_55_ (fun j k h => by omega))
        have hg_51 : ∀ j, j < 71 + fC S → ad_52 j = ad j := fun j hj => (hg_51_ j (Nat.lt_of_lt_of_le hj (Nat.add_le_add_left (hF_48).1 71))).trans ((fun _ _ => rfl) j hj)
        obtain ⟨p_56, hp_56⟩ : ∃ p, p = 71 + fC S_46 := ⟨_, rfl⟩
        rw [← hp_56]
        have kp_56 : fK S_53 p_56 = 0 := by rw [hS_53, hp_56]; exact gNew_K _ _ _ _ _ _
        have np_56 : fN S_53 p_56 = 0 := by rw [hS_53, hp_56]; exact gNew_N _ _ _ _ _ _
        have rp_56 : fR S_53 p_56 = (fun _ => none) := by rw [hS_53, hp_56]; exact gNew_R _ _ _ _ _ _
        have cp_56 : fC S_53 = fC S_46 + 1 := by rw [hS_53]; rfl
        have lp_56 : p_56 < 71 + fC S_53 := by omega
        have ep_56 : 71 + fC S ≤ p_56 := by have hc_ := (hF_48).1; omega
        have hl : lv_has ls 3 [(2, .int (1)), (1, .int ((nI k))), (0, .ref (ad_52 57))] := by rw [hg_51_ 57 ((lt71 (by omega)))]; exact hl
        have nsp_56 : noSh S_53 p_56 := by rw [hp_56]; exact (noSh.new hX_47).fr hF_55_ (by omega)
        refine lv_dup hx hb (fk_get fk_cX9_toCounter_1 8 rfl) rfl ?_
        refine lv_aload_n hx hb (fk_get fk_cX9_toCounter_1 9 rfl) rfl (lv_at hl 2 rfl) ?_
        have hFc := va_self hD hS hA
        refine va_callv (va_runI (As := [.ref (ad_52 57)]) (rest := [.ref (ad_52 p_56)]) ⟨hx, hb, hml, hown, hT⟩ (c_x1_initE l G ad_52 S_53 H.size (p_56) (cds (C ++ [x52])) ((show 71 ≤ p_56 by omega)) (lp_56) (kp_56) (nsp_56) (((hF_55_).F (lt71 (by omega)) (by omega)).trans (by rw [hCn.1, Nat.zero_add])) (by omega) (fun i hi => by rw [(hF_55_).A (j := 59) (lt71 (by omega)) (by omega), (hF_55_).A (j := 60) (lt71 (by omega)) (by omega)]; have q_ := hCn.2.2 i hi; rw [Nat.zero_add] at q_; exact q_) (hX_54)) (tI 1 hT m3_136 m3_137 m1_10 m3_138 rfl rfl rfl (by decide +kernel) ⟨Nat.le_of_ble_eq_true rfl, Nat.le_of_ble_eq_true rfl⟩) ⟨PcE_blind, PcE_of hP hK hD hE hS (fun q h => hFc q h) _⟩ rfl rfl hl.1 rfl (lv_room (Nat.le_of_ble_eq_true rfl)) (fk_get fk_cX9_toCounter_1 10 rfl) ⟨(by show (0 + 1) + 2 ≤ 3; omega), (by show (0 + 4) + 200 ≤ 204; omega)⟩) hS (fun q _ h => hFc q h) hFc (fun u_ t_ H locs ht_ hvm_ hw_58 hB_ hz_ hk_ hS => ?_)
        obtain ⟨S_59, ad_60⟩ := u_
        dsimp only at hB_ hw_58
        obtain ⟨hP, -, hD1_⟩ := hB_
        rw [ht_] at hP
        have hD : va_D A (wX G ad_60 S_59) := hD1_.weaken (fun k q _ h => hFc q.1 h)
        obtain ⟨hX_61, hF_62_, hg_63_, hw_58⟩ := hw_58
        have hg_63 : ∀ j, j < 71 + fC S → ad_60 j = ad j := fun j hj => (hg_63_ j (Nat.lt_of_lt_of_le hj (Nat.add_le_add_left (hF_55).1 71))).trans (hg_51 j hj)
        have hF_62 : Fr (fun j k => (j = 57 ∧ (k = 2 ∨ k = 3 ∨ k = 4 ∨ k = 7 ∨ k = 8)) ∨ ((j = 59 ∨ j = 60) ∧ k = 99)) S S_59 := Fr.tr hF_55 hF_62_ (fun j k hj h => by have hc_ := (hF_55).1; omega)
        have hl : lv_has ls 3 [(2, .int (1)), (1, .int ((nI k))), (0, .ref (ad_60 57))] := by rw [hg_63_ 57 ((lt71 (by omega)))]; exact hl
        rw [← hg_63_ p_56 lp_56]
        obtain ⟨hx76, hco76⟩ := hw_58
        have hfi := hF_62_
        have hp76 : fF S_59 57 2 = nI z := (hfi.F (lt71 (by omega)) (fun q => by omega)).trans ((hF_55_.F (lt71 (by omega)) (by omega)).trans (by rw [hp52, heq]))
        rw [(hF_55_.F (j := 57) (k := 3) (lt71 (by omega)) (by omega)).trans h3n, (hF_55_.F (j := 57) (k := 4) (lt71 (by omega)) (by omega)).trans h4n] at hx76
        subst hQ
        have hpost : XI S_59 ∧ Fr (fun j k => (j = 57 ∧ (k = 2 ∨ k = 3 ∨ k = 4 ∨ k = 7 ∨ k = 8)) ∨ ((j = 59 ∨ j = 60) ∧ k = 99)) S S_59 ∧ (∀ j, j < 71 + fC S → ad_60 j = ad j) ∧ TcP τ z ((some (ad_60 p_56)) : Option Nat) S_59 ad_60 := by
          exact ⟨hX_61, hF_62, hg_63, (by first | exact ⟨by rw [hres]; show _ = nI (clP cdA τ q2).2; rw [heq]; exact hp76, Or.inr ⟨_, _, by rw [hres], rfl, hco76, hx76⟩⟩ | exact ⟨by rw [← hJ, hcc, thn_n e52]; exact hp52, Or.inl ⟨by rw [← hJ, hcc, thn_n e52], rfl⟩⟩ | exact ⟨by rw [← hJ, cnt_f (by omega) hk0 n35]; exact hp35, Or.inl ⟨by rw [← hJ, cnt_f (by omega) hk0 n35], rfl⟩⟩ | exact ⟨by rw [← hJ, show 10 - k = 0 by omega]; exact hql, Or.inl ⟨by rw [← hJ, show 10 - k = 0 by omega]; rfl, rfl⟩⟩)⟩
        refine W.widen (k := 3) (n := 204) (by omega) (by omega) ?_
        exact W.aret hx hb hr (Or.inl ⟨_, rfl⟩) (Or.inr ⟨_, rfl⟩) (fun t_ ht_ hW_ => ⟨⟨(some (ad_60 p_56)), (S_59, ad_60), rfl, hpost, by rw [ht_]; exact hP, va_K.moved hW_.alike hK, hD⟩, hS.F ht_⟩) hS.2.2 (fk_get fk_cX9_toCounter_1 11 rfl)
      obtain ⟨e52, hp52⟩ := clo_n hK52 (by assumption)
      refine lv_null hx hb (fk_get fk_cX9_toCounter_1 0 rfl) ?_
      subst hQ
      have hpost : XI S_46 ∧ Fr (fun j k => (j = 57 ∧ (k = 2 ∨ k = 3 ∨ k = 4 ∨ k = 7 ∨ k = 8)) ∨ ((j = 59 ∨ j = 60) ∧ k = 99)) S S_46 ∧ (∀ j, j < 71 + fC S → ad j = ad j) ∧ TcP τ z (none : Option Nat) S_46 ad := by
        exact ⟨hX_47, hF_48, (fun _ _ => rfl), (by first | exact ⟨by rw [hres]; show _ = nI (clP cdA τ q2).2; rw [heq]; exact hp76, Or.inr ⟨_, _, by rw [hres], rfl, hco76, hx76⟩⟩ | exact ⟨by rw [← hJ, hcc, thn_n e52]; exact hp52, Or.inl ⟨by rw [← hJ, hcc, thn_n e52], rfl⟩⟩ | exact ⟨by rw [← hJ, cnt_f (by omega) hk0 n35]; exact hp35, Or.inl ⟨by rw [← hJ, cnt_f (by omega) hk0 n35], rfl⟩⟩ | exact ⟨by rw [← hJ, show 10 - k = 0 by omega]; exact hql, Or.inl ⟨by rw [← hJ, show 10 - k = 0 by omega]; rfl, rfl⟩⟩)⟩
      refine W.widen (k := 3) (n := 204) (by omega) (by omega) ?_
      exact W.aret hx hb hr (Or.inl ⟨_, rfl⟩) (Or.inl rfl) (fun t_ ht_ hW_ => ⟨⟨none, (S_46, ad), rfl, hpost, by rw [ht_]; exact hP, va_K.moved hW_.alike hK, hD⟩, hS.F ht_⟩) hS.2.2 (fk_get fk_cX9_toCounter_1 1 rfl)
  exact lp_9 (11) (0) (0) ([]) (setF (setF (setF (setF S 57 2 (0)) 57 3 (5)) 57 4 (1)) 57 7 (0)) _ _ ls (hX_7) (hF_8) (by omega) (by omega) (hTx) (rfl) (by omega) (Nat.le_refl _) (⟨rfl, fun i hi => absurd hi (Nat.not_lt_zero i), fun i hi => absurd hi (Nat.not_lt_zero i)⟩) (rfl) (rfl) (rfl) hP hD hS (lv_sub hl [0, 1] rfl)
/-- what counter() does -/
def CnP (τ : Nat → Int32) (z nc : Nat) (r : Int32) (S U : FS) : Prop := (nc = 6 ∧ r = -4 ∧ U = S) ∨
  (nc < 6 ∧ fF U 57 1 = 0 ∧ (((cntP cdA τ z).1 = none ∧ r = -10 - nI (cntP cdA τ z).2 ∧ fF U 0 9 = nI nc ∧ fR U 9 7 = fR S 9 7) ∨ ∃ C p, (cntP cdA τ z).1 = some C ∧ r = nI nc ∧ fF U 0 9 = nI (nc + 1) ∧ fR U 9 7 = some p ∧ COK U p ∧ CTX U p (lstW 2 5 C) (lstW 3 1 C) (cds C)))
def FdP (z : Nat) (x r : Int32) (S U : FS) : Prop := ((x < 0 ∨ 127 < x) ∧ r = -2 ∧ U = S) ∨ (¬ (x < 0 ∨ 127 < x) ∧ z = 100 ∧ r = -4 ∧ U = S) ∨ (¬ (x < 0 ∨ 127 < x) ∧ z < 100 ∧ r = nI (z + 1) ∧ U = setF (setA S 58 (upd (fA S 58) z x)) 57 1 (nI (z + 1)))
theorem COK.F0 {S : FS} {p j k : Nat} {v : Int32} (h : COK S p) : COK (setF S j k v) p := h
theorem CTX.keep {P : Nat → Nat → Prop} {S S' : FS} {p : Nat} {a b : Int32} {L : Cds} (h : CTX S p a b L) (hc : COK S p) (hF : Fr P S S') (n : ∀ j k, 71 ≤ j → ¬ P j k) : CTX S' p a b L := by
  obtain ⟨h1, h2, x, y, h3, h4, h5, h6, h7⟩ := h
  exact ⟨(hF.F hc.2.1 (n p 0 hc.1)).trans h1, (hF.F hc.2.1 (n p 1 hc.1)).trans h2, x, y, (hF.R hc.2.1 (n p 2 hc.1)).trans h3, (hF.R hc.2.1 (n p 3 hc.1)).trans h4, h5.fr hF, h6.fr hF, fun i hi => by rw [hF.A h5.2.1 (n x 99 h5.1), hF.A h6.2.1 (n y 99 h6.1)]; exact h7 i hi⟩
theorem dec_1 (n : Nat) : nI (n + 1) - 1 = nI n := nI_pred n
theorem fd_i2b {x : Int32} (h : ¬ (x < 0 ∨ 127 < x)) : x.toInt8.toInt32 = x := by
  obtain ⟨b, hb, rfl⟩ := out_n (b := 127) h (by decide)
  exact sg_b (by omega)
theorem cn_fr (S : FS) (v1 v2 : Int32) (pc : Option Nat) : Fr (fun j k => (j = 57 ∧ k = 1) ∨ (j = 9 ∧ k = 7) ∨ (j = 0 ∧ k = 9)) S (setF (setR (setF S 57 1 v1) 9 7 pc) 0 9 v2) :=
  Fr.sF (Fr.sR (Fr.sF Fr.rf (Or.inl ⟨rfl, rfl⟩)) (Or.inr (Or.inl ⟨rfl, rfl⟩))) (Or.inr (Or.inr ⟨rfl, rfl⟩))
set_option maxHeartbeats 800000 in
set_option maxRecDepth 100000 in
theorem c_x11_counterE (l : Launch) (G : GG) (ad : Nat → Nat) (S : FS) (sz : Nat) (n nc z : Nat) (τ : Nat → Int32) (hn : fF S (9 + 0) 3 = nI n) (hn6 : n ≤ 6) (hTx : TXz S z τ) (hnc : fF S 0 9 = nI nc) (hnc6 : nc ≤ 6) (hX : XI S) : Met l yX11_counter (Cond.code yX11_counter cX11_counter 2 (some .int) :: TBL) ({ frames := 24, cells := 3, slots := 204, locals := 645 } : Room) (PcE G (wX G ad S) sz [.ref (ad 0)]) (va_Qi (fun (r : Int32) (u : FS × (Nat → Nat)) => XI u.1 ∧ Fr (fun j k => (j = 0 ∧ k = 9) ∨ (j = 9 ∧ k = 7) ∨ (j = 57 ∧ (k = 1 ∨ k = 2 ∨ k = 3 ∨ k = 4 ∨ k = 7 ∨ k = 8)) ∨ ((j = 59 ∨ j = 60) ∧ k = 99)) S u.1 ∧ (∀ j, j < 71 + fC S → u.2 j = ad j) ∧ CnP τ z nc r S u.1) (fun u t => BW G (va_A (wX G ad S) sz) (wX G u.2 u.1) t) (va_A (wX G ad S) sz)) 3 204 (va_A (wX G ad S) sz) := by
  refine Met.ofW (cc := cX11_counter) (maxL := 2) (ret := (some .int)) (by decide) rfl ?_
  intro p e s m args below meth c₀ s₁ B hml hv
  obtain ⟨rfl, hsz, hP, hK, hD0, hE⟩ := hv
  have hx := B.exec
  have hb := B.bytes
  have hr := B.returns
  have hT : ∀ w ∈ TBL, w.before ([.ref (ad 0)] : List Value).toArray s = true := fun w h => atoms_spec (ws := Cond.code yX11_counter cX11_counter 2 (some .int) :: TBL) B.pre w (List.mem_cons_of_mem _ h)
  have hown : s.vm.findClass "LittleMore" = some m.cls := findClass_of_methodNamed B.named
  have hlocks := B.notSynchronized
  subst hsz
  have hD := hD0.self (sz := s.heap.size)
  generalize hAe : va_A (wX G ad S) s.heap.size = A at hD hE ⊢
  have hA : ∀ q : Nat, s.heap.size ≤ q → A q := fun q h => by rw [← hAe]; exact Or.inr h
  have hS : va_S A s.heap s.heap [] := va_S.rf
  have hP : va_P G.1 vwCl (wX G ad S) s.heap := hP
  have hl := lv_entry ([.ref (ad 0)]) (n := 2) (Nat.le_of_ble_eq_true rfl)
  rw [lg_entry_eq]
  generalize (lg_sl ([.ref (ad 0)]) ++ List.replicate (2 - (lg_sl ([.ref (ad 0)])).length) Slot.unset).toArray = ls at hl ⊢
  have hl : lv_has ls 2 [(0, .ref (ad 0))] := hl
  refine W_abs (fun Q hQ => ?_)
  generalize ([.ref (ad 0)] : List Value).toArray = args at hT hQ ⊢
  refine lv_aload_n hx hb (fk_get fk_cX11_counter_0 0 rfl) rfl (lv_at hl 0 rfl) ?_
  refine va_get (D := G.1) (ci := 13) (v := .int (fF S 0 9)) (C := RX11) (T := TX11) (N := 11) hx hb hT inX11 hown hK hP 0 (ix_at (lt71 (by omega)) (cX_0 G ad S)) rfl 9 (by decide) (hT _ m2_78) (fun _ h9 => h9) rfl (fk_get fk_cX11_counter_0 1 rfl) ?_
  rw [show (fF S 0 9) = (nI nc) from hnc]
  refine lv_bipush (v := 6) hx hb (fk_get fk_cX11_counter_0 2 rfl) (by decide) ?_
  refine lv_icmp_lt (tgt := 12) hx hb (fk_get fk_cX11_counter_0 3 rfl) (by decide) (fun c_1 => ?_) (fun c_1 => ?_)
  · have q_c_1 : nc < 6 := ci_lt (a := nc) (b := 6) (by omega) (by omega) c_1
    have hnc5 : nc < 6 := ci_lt (b := 6) (by omega) (by omega) c_1
    refine lv_aload_n hx hb (fk_get fk_cX11_counter_0 6 rfl) rfl (lv_at hl 0 rfl) ?_
    refine va_get (D := G.1) (ci := 13) (v := .ref (ad 57)) (C := RX11) (T := TX11) (N := 11) hx hb hT inX11 hown hK hP 0 (ix_at (lt71 (by omega)) (cX_0 G ad S)) rfl 4 (by decide) (hT _ m2_73) (fun _ h9 => h9) rfl (fk_get fk_cX11_counter_0 7 rfl) ?_
    have hFc := va_self hD hS hA
    refine va_callq (va_runV (As := []) (rest := []) ⟨hx, hb, hml, hown, hT⟩ (c_x9_toCounterE l G ad S s.heap.size (z) (τ) (by first | assumption | omega) (hX)) (tV 0 hT m2_209 m2_210 m2_211 m1_12 m2_212 rfl rfl (by decide +kernel) ⟨Nat.le_of_ble_eq_true rfl, Nat.le_of_ble_eq_true rfl⟩) ⟨PcE_blind, va_recv hK hP (ci := 11) (q0 := 57) rfl (ix_at (lt71 (by omega)) (cX_text G ad S)), PcE_of hP hK hD hE hS (fun q h => hFc q h) _⟩ rfl rfl hl.1 rfl (lv_room (Nat.le_of_ble_eq_true rfl)) (fk_get fk_cX11_counter_0 8 rfl) ⟨Nat.le_of_ble_eq_true rfl, Nat.le_of_ble_eq_true rfl⟩) hS (fun q _ h => hFc q h) hFc (fun r_2 u_ t_ H locs ht_ hvm_ hw_3 hB_ hz_ hk_ hS => ?_)
    obtain ⟨S_4, ad_5⟩ := u_
    dsimp only at hB_ hw_3
    obtain ⟨hP, -, hD1_⟩ := hB_
    rw [ht_] at hP
    have hD : va_D A (wX G ad_5 S_4) := hD1_.weaken (fun k q _ h => hFc q.1 h)
    obtain ⟨hX_6, hF_7_, hg_8_, hw_3⟩ := hw_3
    have hg_8 : ∀ j, j < 71 + fC S → ad_5 j = ad j := fun j hj => (hg_8_ j (Nat.lt_of_lt_of_le hj (Nat.add_le_add_left ((Fr.rf : Fr (fun j k => (j = 0 ∧ k = 9) ∨ (j = 9 ∧ k = 7) ∨ (j = 57 ∧ (k = 1 ∨ k = 2 ∨ k = 3 ∨ k = 4 ∨ k = 7 ∨ k = 8)) ∨ ((j = 59 ∨ j = 60) ∧ k = 99)) S S)).1 71))).trans ((fun _ _ => rfl) j hj)
    have hF_7 : Fr (fun j k => (j = 0 ∧ k = 9) ∨ (j = 9 ∧ k = 7) ∨ (j = 57 ∧ (k = 1 ∨ k = 2 ∨ k = 3 ∨ k = 4 ∨ k = 7 ∨ k = 8)) ∨ ((j = 59 ∨ j = 60) ∧ k = 99)) S S_4 := Fr.tr (Fr.rf : Fr (fun j k => (j = 0 ∧ k = 9) ∨ (j = 9 ∧ k = 7) ∨ (j = 57 ∧ (k = 1 ∨ k = 2 ∨ k = 3 ∨ k = 4 ∨ k = 7 ∨ k = 8)) ∨ ((j = 59 ∨ j = 60) ∧ k = 99)) S S) hF_7_ (fun j k hj h => by have hc_ := ((Fr.rf : Fr (fun j k => (j = 0 ∧ k = 9) ∨ (j = 9 ∧ k = 7) ∨ (j = 57 ∧ (k = 1 ∨ k = 2 ∨ k = 3 ∨ k = 4 ∨ k = 7 ∨ k = 8)) ∨ ((j = 59 ∨ j = 60) ∧ k = 99)) S S)).1; omega)
    have hl : lv_has ls 2 [(0, .ref (ad_5 0))] := by rw [hg_8_ 0 ((lt71 (by omega)))]; exact hl
    have hn9 : fF S_4 0 9 = nI nc := (Fr.F hF_7_ (j := 0) (k := 9) (lt71 (by omega)) (fun q => by omega)).trans hnc
    have hr9 := Fr.R hF_7_ (j := 9) (k := 7) (lt71 (by omega)) (fun q => by omega)
    obtain ⟨hpl_16, hcs_16⟩ := hw_3
    rcases hcs_16 with ⟨en_16, rfl⟩ | ⟨C_16, pc_16, ec_16, rfl, cd_16, cx_16⟩
    · rw [show va_rf none = .null from rfl]
      refine lv_astore_nN (lv' := [(1, .null), (0, .ref (ad_5 0))]) hx hb (fk_get fk_cX11_counter_0 9 rfl) rfl hl (by decide) rfl (fun ls hl => ?_)
      refine lv_aload_n hx hb (fk_get fk_cX11_counter_0 10 rfl) rfl (lv_at hl 1 rfl) ?_
      refine va_get (D := G.1) (ci := 13) (v := .ref (ad_5 57)) (C := RX11) (T := TX11) (N := 11) hx hb hT inX11 hown hK hP 0 (ix_at (lt71 (by omega)) (cX_0 G ad_5 S_4)) rfl 4 (by decide) (hT _ m2_73) (fun _ h9 => h9) rfl (fk_get fk_cX11_counter_0 11 rfl) ?_
      refine lv_iconst (v := 0) hx hb (fk_get fk_cX11_counter_0 12 rfl) (by decide) ?_
      refine va_put (D := G.1) (ci := 11) (v := .int (0)) (ty := .int) (C := RX9) (T := TX9) (N := 9) hx hb hT inX9 tyX9 tyX9_ok nmX9 hown hK hP hD hS 57 (ix_at (lt71 (by omega)) (cX_text G ad_5 S_4)) rfl 1 (by decide) (hT _ m2_4) (fun _ h9 => h9) rfl (by decide +kernel) rfl rfl (Nat.le_of_ble_eq_true rfl) (fk_get fk_cX11_counter_0 13 rfl) (fun H locs hP hD hS => ?_)
      rw [pX_text_1 (S := S_4) (0)] at hP hD
      have hX_9 : XI (setF S_4 57 1 (0)) := XI.tl (n := 0) hX_6 (by omega)
      have hF_10 : Fr (fun j k => (j = 0 ∧ k = 9) ∨ (j = 9 ∧ k = 7) ∨ (j = 57 ∧ (k = 1 ∨ k = 2 ∨ k = 3 ∨ k = 4 ∨ k = 7 ∨ k = 8)) ∨ ((j = 59 ∨ j = 60) ∧ k = 99)) S (setF S_4 57 1 (0)) := Fr.sF hF_7 (by omega)
      refine lv_aload_nN hx hb (fk_get fk_cX11_counter_0 14 rfl) rfl (lv_at hl 0 rfl) ?_
      refine lv_ifnonnullN hx hb (fk_get fk_cX11_counter_0 15 rfl) ?_
      refine lv_bipush (v := (-10)) hx hb (fk_get fk_cX11_counter_0 16 rfl) (by decide) ?_
      refine lv_aload_n hx hb (fk_get fk_cX11_counter_0 17 rfl) rfl (lv_at hl 1 rfl) ?_
      refine va_get (D := G.1) (ci := 13) (v := .ref (ad_5 57)) (C := RX11) (T := TX11) (N := 11) hx hb hT inX11 hown hK hP 0 (ix_at (lt71 (by omega)) (cX_0 G ad_5 (setF S_4 57 1 (0)))) rfl 4 (by decide) (hT _ m2_73) (fun _ h9 => h9) rfl (fk_get fk_cX11_counter_0 18 rfl) ?_
      refine va_get (D := G.1) (ci := 11) (v := .int (fF (setF S_4 57 1 (0)) 57 2)) (C := RX9) (T := TX9) (N := 9) hx hb hT inX9 hown hK hP 57 (ix_at (lt71 (by omega)) (cX_text G ad_5 (setF S_4 57 1 (0)))) rfl 2 (by decide) (hT _ m2_6) (fun _ h9 => h9) rfl (fk_get fk_cX11_counter_0 19 rfl) ?_
      rw [show fF (setF S_4 57 1 (0)) 57 2 = (fF S_4 57 2) from by simp [fF_setF, fF_setR, fF_setA, fF_setL]]
      rw [show (fF S_4 57 2) = (nI (cntP cdA τ z).2) from hpl_16]
      refine lv_isub hx hb (fk_get fk_cX11_counter_0 20 rfl) ?_
      subst hQ
      have hpost : XI (setF S_4 57 1 (0)) ∧ Fr (fun j k => (j = 0 ∧ k = 9) ∨ (j = 9 ∧ k = 7) ∨ (j = 57 ∧ (k = 1 ∨ k = 2 ∨ k = 3 ∨ k = 4 ∨ k = 7 ∨ k = 8)) ∨ ((j = 59 ∨ j = 60) ∧ k = 99)) S (setF S_4 57 1 (0)) ∧ (∀ j, j < 71 + fC S → ad_5 j = ad j) ∧ CnP τ z nc (((-10) - (nI (cntP cdA τ z).2)) : Int32) S (setF S_4 57 1 (0)) := by
        exact ⟨hX_9, hF_10, hg_8, by first | exact Or.inl ⟨hncE, rfl, rfl⟩ | exact Or.inr ⟨hnc5, rfl, Or.inl ⟨en_16, rfl, hn9, hr9⟩⟩ | exact Or.inr ⟨hnc5, rfl, Or.inr ⟨C_16, pc_16, ec_16, rfl, rfl, rfl, cd_16.at (cn_fr _ _ _ _) (fun k q => by have := cd_16.1; omega), cx_16.keep cd_16 (cn_fr _ _ _ _) (fun j k h q => by omega)⟩⟩⟩
      refine W.widen (k := 3) (n := 204) (by omega) (by omega) ?_
      exact W.iret (v := ((-10) - (nI (cntP cdA τ z).2))) hx hb hr (fun t_ ht_ hW_ => ⟨⟨((-10) - (nI (cntP cdA τ z).2)), ((setF S_4 57 1 (0)), ad_5), rfl, hpost, by rw [ht_]; exact hP, va_K.moved hW_.alike hK, hD⟩, hS.F ht_⟩) hS.2.2 (fk_get fk_cX11_counter_0 21 rfl)
    rw [show va_rf (some (ad_5 pc_16)) = .ref (ad_5 pc_16) from rfl]
    refine lv_astore_n (lv' := [(1, .ref (ad_5 pc_16)), (0, .ref (ad_5 0))]) hx hb (fk_get fk_cX11_counter_0 9 rfl) rfl hl (by decide) rfl (fun ls hl => ?_)
    refine lv_aload_n hx hb (fk_get fk_cX11_counter_0 10 rfl) rfl (lv_at hl 1 rfl) ?_
    refine va_get (D := G.1) (ci := 13) (v := .ref (ad_5 57)) (C := RX11) (T := TX11) (N := 11) hx hb hT inX11 hown hK hP 0 (ix_at (lt71 (by omega)) (cX_0 G ad_5 S_4)) rfl 4 (by decide) (hT _ m2_73) (fun _ h9 => h9) rfl (fk_get fk_cX11_counter_0 11 rfl) ?_
    refine lv_iconst (v := 0) hx hb (fk_get fk_cX11_counter_0 12 rfl) (by decide) ?_
    refine va_put (D := G.1) (ci := 11) (v := .int (0)) (ty := .int) (C := RX9) (T := TX9) (N := 9) hx hb hT inX9 tyX9 tyX9_ok nmX9 hown hK hP hD hS 57 (ix_at (lt71 (by omega)) (cX_text G ad_5 S_4)) rfl 1 (by decide) (hT _ m2_4) (fun _ h9 => h9) rfl (by decide +kernel) rfl rfl (Nat.le_of_ble_eq_true rfl) (fk_get fk_cX11_counter_0 13 rfl) (fun H locs hP hD hS => ?_)
    rw [pX_text_1 (S := S_4) (0)] at hP hD
    have hX_11 : XI (setF S_4 57 1 (0)) := XI.tl (n := 0) hX_6 (by omega)
    have hF_12 : Fr (fun j k => (j = 0 ∧ k = 9) ∨ (j = 9 ∧ k = 7) ∨ (j = 57 ∧ (k = 1 ∨ k = 2 ∨ k = 3 ∨ k = 4 ∨ k = 7 ∨ k = 8)) ∨ ((j = 59 ∨ j = 60) ∧ k = 99)) S (setF S_4 57 1 (0)) := Fr.sF hF_7 (by omega)
    refine lv_aload_n hx hb (fk_get fk_cX11_counter_0 14 rfl) rfl (lv_at hl 0 rfl) ?_
    refine lv_ifnonnull (tgt := 43) hx hb (fk_get fk_cX11_counter_0 15 rfl) (by decide) ?_
    refine lv_aload_n hx hb (fk_get fk_cX11_counter_0 22 rfl) rfl (lv_at hl 1 rfl) ?_
    refine va_get (D := G.1) (ci := 13) (v := .ref (ad_5 (9 + 0))) (C := RX11) (T := TX11) (N := 11) hx hb hT inX11 hown hK hP 0 (ix_at (lt71 (by omega)) (cX_0 G ad_5 (setF S_4 57 1 (0)))) rfl 1 (by decide) (hT _ m2_70) (fun _ h9 => h9) rfl (fk_get fk_cX11_counter_0 23 rfl) ?_
    refine lv_aload_n hx hb (fk_get fk_cX11_counter_0 24 rfl) rfl (lv_at hl 0 rfl) ?_
    refine va_put (D := G.1) (ci := 9) (v := .ref (ad_5 pc_16)) (ty := (.object "LittleMore$Counter")) (C := RX7) (T := TX7) (N := 8) hx hb hT inX7 tyX7 tyX7_ok nmX7 hown hK hP hD hS (9 + 0) (ix_at (lt71 (by omega)) (cX_shop (pk_shop (by decide : 0 < 3)))) rfl 7 (by decide) (hT _ m1_217) (fun _ h9 => h9) rfl (by decide +kernel) rfl rfl (Nat.le_of_ble_eq_true rfl) (fk_get fk_cX11_counter_0 25 rfl) (fun H locs hP hD hS => ?_)
    rw [pX_shop_7 (S := (setF S_4 57 1 (0))) (lt71 (by omega)) (pk_shop (by decide : 0 < 3)) (pc_16)] at hP hD
    have hX_13 : XI (setR (setF S_4 57 1 (0)) (9 + 0) 7 (some (pc_16))) := XI.ct hX_11 (by decide : 0 < 3) cd_16
    have hF_14 : Fr (fun j k => (j = 0 ∧ k = 9) ∨ (j = 9 ∧ k = 7) ∨ (j = 57 ∧ (k = 1 ∨ k = 2 ∨ k = 3 ∨ k = 4 ∨ k = 7 ∨ k = 8)) ∨ ((j = 59 ∨ j = 60) ∧ k = 99)) S (setR (setF S_4 57 1 (0)) (9 + 0) 7 (some (pc_16))) := Fr.sR hF_12 (by omega)
    refine lv_aload_n hx hb (fk_get fk_cX11_counter_0 26 rfl) rfl (lv_at hl 1 rfl) ?_
    refine lv_dup hx hb (fk_get fk_cX11_counter_0 27 rfl) rfl ?_
    refine va_get (D := G.1) (ci := 13) (v := .int (fF (setR (setF S_4 57 1 (0)) (9 + 0) 7 (some (pc_16))) 0 9)) (C := RX11) (T := TX11) (N := 11) hx hb hT inX11 hown hK hP 0 (ix_at (lt71 (by omega)) (cX_0 G ad_5 (setR (setF S_4 57 1 (0)) (9 + 0) 7 (some (pc_16))))) rfl 9 (by decide) (hT _ m2_78) (fun _ h9 => h9) rfl (fk_get fk_cX11_counter_0 28 rfl) ?_
    rw [show fF (setR (setF S_4 57 1 (0)) (9 + 0) 7 (some (pc_16))) 0 9 = (fF S_4 0 9) from by simp [fF_setF, fF_setR, fF_setA, fF_setL]]
    rw [show (fF S_4 0 9) = (nI nc) from hn9]
    refine lv_iconst (v := 1) hx hb (fk_get fk_cX11_counter_0 29 rfl) (by decide) ?_
    refine lv_iadd hx hb (fk_get fk_cX11_counter_0 30 rfl) ?_
    rw [show ((nI nc) + 1) = (nI (nc + 1)) from (nI_1 nc)]
    refine va_put (D := G.1) (ci := 13) (v := .int ((nI (nc + 1)))) (ty := .int) (C := RX11) (T := TX11) (N := 11) hx hb hT inX11 tyX11 tyX11_ok nmX11 hown hK hP hD hS 0 (ix_at (lt71 (by omega)) (cX_0 G ad_5 (setR (setF S_4 57 1 (0)) (9 + 0) 7 (some (pc_16))))) rfl 9 (by decide) (hT _ m2_78) (fun _ h9 => h9) rfl (by decide +kernel) rfl rfl (Nat.le_of_ble_eq_true rfl) (fk_get fk_cX11_counter_0 31 rfl) (fun H locs hP hD hS => ?_)
    rw [pX_main_9 (S := (setR (setF S_4 57 1 (0)) (9 + 0) 7 (some (pc_16)))) ((nI (nc + 1)))] at hP hD
    have hX_15 : XI (setF (setR (setF S_4 57 1 (0)) (9 + 0) 7 (some (pc_16))) 0 9 ((nI (nc + 1)))) := XI.sF hX_13 _ ⟨by omega, by omega, by omega, by omega, by omega, by omega, by omega, by omega⟩
    have hF_16 : Fr (fun j k => (j = 0 ∧ k = 9) ∨ (j = 9 ∧ k = 7) ∨ (j = 57 ∧ (k = 1 ∨ k = 2 ∨ k = 3 ∨ k = 4 ∨ k = 7 ∨ k = 8)) ∨ ((j = 59 ∨ j = 60) ∧ k = 99)) S (setF (setR (setF S_4 57 1 (0)) (9 + 0) 7 (some (pc_16))) 0 9 ((nI (nc + 1)))) := Fr.sF hF_14 (by omega)
    refine lv_aload_n hx hb (fk_get fk_cX11_counter_1 0 rfl) rfl (lv_at hl 1 rfl) ?_
    refine va_get (D := G.1) (ci := 13) (v := .int (fF (setF (setR (setF S_4 57 1 (0)) (9 + 0) 7 (some (pc_16))) 0 9 ((nI (nc + 1)))) 0 9)) (C := RX11) (T := TX11) (N := 11) hx hb hT inX11 hown hK hP 0 (ix_at (lt71 (by omega)) (cX_0 G ad_5 (setF (setR (setF S_4 57 1 (0)) (9 + 0) 7 (some (pc_16))) 0 9 ((nI (nc + 1)))))) rfl 9 (by decide) (hT _ m2_78) (fun _ h9 => h9) rfl (fk_get fk_cX11_counter_1 1 rfl) ?_
    rw [show fF (setF (setR (setF S_4 57 1 (0)) (9 + 0) 7 (some (pc_16))) 0 9 ((nI (nc + 1)))) 0 9 = (nI (nc + 1)) from by simp [fF_setF, fF_setR, fF_setA, fF_setL]]
    refine lv_iconst (v := 1) hx hb (fk_get fk_cX11_counter_1 2 rfl) (by decide) ?_
    refine lv_isub hx hb (fk_get fk_cX11_counter_1 3 rfl) ?_
    rw [show ((nI (nc + 1)) - 1) = (nI nc) from dec_1 nc]
    subst hQ
    have hpost : XI (setF (setR (setF S_4 57 1 (0)) (9 + 0) 7 (some (pc_16))) 0 9 ((nI (nc + 1)))) ∧ Fr (fun j k => (j = 0 ∧ k = 9) ∨ (j = 9 ∧ k = 7) ∨ (j = 57 ∧ (k = 1 ∨ k = 2 ∨ k = 3 ∨ k = 4 ∨ k = 7 ∨ k = 8)) ∨ ((j = 59 ∨ j = 60) ∧ k = 99)) S (setF (setR (setF S_4 57 1 (0)) (9 + 0) 7 (some (pc_16))) 0 9 ((nI (nc + 1)))) ∧ (∀ j, j < 71 + fC S → ad_5 j = ad j) ∧ CnP τ z nc ((nI nc) : Int32) S (setF (setR (setF S_4 57 1 (0)) (9 + 0) 7 (some (pc_16))) 0 9 ((nI (nc + 1)))) := by
      exact ⟨hX_15, hF_16, hg_8, by first | exact Or.inl ⟨hncE, rfl, rfl⟩ | exact Or.inr ⟨hnc5, rfl, Or.inl ⟨en_16, rfl, hn9, hr9⟩⟩ | exact Or.inr ⟨hnc5, rfl, Or.inr ⟨C_16, pc_16, ec_16, rfl, rfl, rfl, cd_16.at (cn_fr _ _ _ _) (fun k q => by have := cd_16.1; omega), cx_16.keep cd_16 (cn_fr _ _ _ _) (fun j k h q => by omega)⟩⟩⟩
    refine W.widen (k := 3) (n := 204) (by omega) (by omega) ?_
    exact W.iret (v := (nI nc)) hx hb hr (fun t_ ht_ hW_ => ⟨⟨(nI nc), ((setF (setR (setF S_4 57 1 (0)) (9 + 0) 7 (some (pc_16))) 0 9 ((nI (nc + 1)))), ad_5), rfl, hpost, by rw [ht_]; exact hP, va_K.moved hW_.alike hK, hD⟩, hS.F ht_⟩) hS.2.2 (fk_get fk_cX11_counter_1 4 rfl)
  have q_c_1 : 6 ≤ nc := ci_nlt (a := nc) (b := 6) (by omega) (by omega) c_1
  have hncE : nc = 6 := by
    have := ci_nlt (a := nc) (b := 6) (by omega) (by omega) c_1
    omega
  refine lv_bipush (v := (-4)) hx hb (fk_get fk_cX11_counter_0 4 rfl) (by decide) ?_
  subst hQ
  have hpost : XI S ∧ Fr (fun j k => (j = 0 ∧ k = 9) ∨ (j = 9 ∧ k = 7) ∨ (j = 57 ∧ (k = 1 ∨ k = 2 ∨ k = 3 ∨ k = 4 ∨ k = 7 ∨ k = 8)) ∨ ((j = 59 ∨ j = 60) ∧ k = 99)) S S ∧ (∀ j, j < 71 + fC S → ad j = ad j) ∧ CnP τ z nc ((-4) : Int32) S S := by
    exact ⟨hX, (Fr.rf : Fr (fun j k => (j = 0 ∧ k = 9) ∨ (j = 9 ∧ k = 7) ∨ (j = 57 ∧ (k = 1 ∨ k = 2 ∨ k = 3 ∨ k = 4 ∨ k = 7 ∨ k = 8)) ∨ ((j = 59 ∨ j = 60) ∧ k = 99)) S S), (fun _ _ => rfl), by first | exact Or.inl ⟨hncE, rfl, rfl⟩ | exact Or.inr ⟨hnc5, rfl, Or.inl ⟨en_16, rfl, hn9, hr9⟩⟩ | exact Or.inr ⟨hnc5, rfl, Or.inr ⟨C_16, pc_16, ec_16, rfl, rfl, rfl, cd_16.at (cn_fr _ _ _ _) (fun k q => by have := cd_16.1; omega), cx_16.keep cd_16 (cn_fr _ _ _ _) (fun j k h q => by omega)⟩⟩⟩
  refine W.widen (k := 3) (n := 204) (by omega) (by omega) ?_
  exact W.iret (v := (-4)) hx hb hr (fun t_ ht_ hW_ => ⟨⟨(-4), (S, ad), rfl, hpost, by rw [ht_]; exact hP, va_K.moved hW_.alike hK, hD⟩, hS.F ht_⟩) hS.2.2 (fk_get fk_cX11_counter_0 5 rfl)
theorem fd_nar {x : Int32} (h : ¬ (x < 0 ∨ 127 < x)) : vp_nar FieldType.byte x = x := fd_i2b h
set_option maxHeartbeats 800000 in
set_option maxRecDepth 100000 in
theorem c_x11_feedE (l : Launch) (G : GG) (ad : Nat → Nat) (S : FS) (sz : Nat) (n t : Nat) (x : Int32) (hn : fF S (9 + 0) 3 = nI n) (hn6 : n ≤ 6) (ht : fF S 57 1 = nI t) (ht100 : t ≤ 100) (hX : XI S) : Met l yX11_feed (Cond.code yX11_feed cX11_feed 2 (some .int) :: TBL) ({ frames := 3, cells := 0, slots := 0, locals := 90 } : Room) (PcW G (wX G ad S) sz [.ref (ad 0), .int (x)]) (va_Qi (fun (r : Int32) (S' : FS) => XI S' ∧ Fr (fun j k => (j = 57 ∧ k = 1) ∨ (j = 58 ∧ k = 99)) S S' ∧ FdP t x r S S') (fun S' t => BW G (va_A (wX G ad S) sz) (wX G ad S') t) (va_A (wX G ad S) sz)) 0 0 (va_A (wX G ad S) sz) := by
  refine Met.ofW (cc := cX11_feed) (maxL := 2) (ret := (some .int)) (by decide) rfl ?_
  intro p e s m args below meth c₀ s₁ B hml hv
  obtain ⟨rfl, hsz, hP, hK, hD0⟩ := hv
  have hx := B.exec
  have hb := B.bytes
  have hr := B.returns
  have hT : ∀ w ∈ TBL, w.before ([.ref (ad 0), .int (x)] : List Value).toArray s = true := fun w h => atoms_spec (ws := Cond.code yX11_feed cX11_feed 2 (some .int) :: TBL) B.pre w (List.mem_cons_of_mem _ h)
  have hown : s.vm.findClass "LittleMore" = some m.cls := findClass_of_methodNamed B.named
  have hlocks := B.notSynchronized
  subst hsz
  have hD := hD0.self (sz := s.heap.size)
  generalize hAe : va_A (wX G ad S) s.heap.size = A at hD ⊢
  have hA : ∀ q : Nat, s.heap.size ≤ q → A q := fun q h => by rw [← hAe]; exact Or.inr h
  have hS : va_S A s.heap s.heap [] := va_S.rf
  have hP : va_P G.1 vwCl (wX G ad S) s.heap := hP
  have hl := lv_entry ([.ref (ad 0), .int (x)]) (n := 2) (Nat.le_of_ble_eq_true rfl)
  rw [lg_entry_eq]
  generalize (lg_sl ([.ref (ad 0), .int (x)]) ++ List.replicate (2 - (lg_sl ([.ref (ad 0), .int (x)])).length) Slot.unset).toArray = ls at hl ⊢
  have hl : lv_has ls 2 [(0, .ref (ad 0)), (1, .int (x))] := hl
  refine W_abs (fun Q hQ => ?_)
  generalize ([.ref (ad 0), .int (x)] : List Value).toArray = args at hT hQ ⊢
  refine lv_iload_n hx hb (fk_get fk_cX11_feed_0 0 rfl) rfl (lv_at hl 1 rfl) ?_
  refine lv_iconst (v := 0) hx hb (fk_get fk_cX11_feed_0 1 rfl) (by decide) ?_
  refine lv_bipush (v := 127) hx hb (fk_get fk_cX11_feed_0 2 rfl) (by decide) ?_
  refine vp_callSi (W.runS (As := [.int (x), .int (0), .int (127)]) (rest := []) ⟨hx, hb, hml, hown, hT⟩ (c_xisOutside l (x) (0) (127) ) (tS 3 hT m2_108 m2_109 m1_1 m2_110 rfl rfl (by decide +kernel) ⟨Nat.le_of_ble_eq_true rfl, Nat.le_of_ble_eq_true rfl⟩) ⟨PcN_blind, PcN_of _ _ _⟩ rfl rfl hl.1 rfl (lv_room (Nat.le_of_ble_eq_true rfl)) (fk_get fk_cX11_feed_0 3 rfl) ⟨Nat.zero_le _, Nat.zero_le _⟩) (fun r_1 hw_2 => ?_)
  try dsimp only at hw_2
  refine lv_if_eq (tgt := 13) hx hb (fk_get fk_cX11_feed_0 4 rfl) (by decide) (fun c_3 => ?_) (fun c_3 => ?_)
  · have p_c_3 := if1_f hw_2 c_3
    refine lv_aload_n hx hb (fk_get fk_cX11_feed_0 7 rfl) rfl (lv_at hl 0 rfl) ?_
    refine va_get (D := G.1) (ci := 13) (v := .ref (ad 57)) (C := RX11) (T := TX11) (N := 11) hx hb hT inX11 hown hK hP 0 (ix_at (lt71 (by omega)) (cX_0 G ad S)) rfl 4 (by decide) (hT _ m2_73) (fun _ h9 => h9) rfl (fk_get fk_cX11_feed_0 8 rfl) ?_
    refine va_get (D := G.1) (ci := 11) (v := .int (fF S 57 1)) (C := RX9) (T := TX9) (N := 9) hx hb hT inX9 hown hK hP 57 (ix_at (lt71 (by omega)) (cX_text G ad S)) rfl 1 (by decide) (hT _ m2_4) (fun _ h9 => h9) rfl (fk_get fk_cX11_feed_0 9 rfl) ?_
    rw [ht]
    refine lv_bipush (v := 100) hx hb (fk_get fk_cX11_feed_0 10 rfl) (by decide) ?_
    refine lv_icmp_lt (tgt := 28) hx hb (fk_get fk_cX11_feed_0 11 rfl) (by decide) (fun c_4 => ?_) (fun c_4 => ?_)
    · have q_c_4 : t < 100 := ci_lt (a := t) (b := 100) (by omega) (by omega) c_4
      refine lv_aload_n hx hb (fk_get fk_cX11_feed_0 14 rfl) rfl (lv_at hl 0 rfl) ?_
      refine va_get (D := G.1) (ci := 13) (v := .ref (ad 57)) (C := RX11) (T := TX11) (N := 11) hx hb hT inX11 hown hK hP 0 (ix_at (lt71 (by omega)) (cX_0 G ad S)) rfl 4 (by decide) (hT _ m2_73) (fun _ h9 => h9) rfl (fk_get fk_cX11_feed_0 15 rfl) ?_
      refine va_get (D := G.1) (ci := 11) (v := .ref (ad 58)) (C := RX9) (T := TX9) (N := 9) hx hb hT inX9 hown hK hP 57 (ix_at (lt71 (by omega)) (cX_text G ad S)) rfl 0 (by decide) (hT _ m2_2) (fun _ h9 => h9) rfl (fk_get fk_cX11_feed_0 16 rfl) ?_
      refine lv_aload_n hx hb (fk_get fk_cX11_feed_0 17 rfl) rfl (lv_at hl 0 rfl) ?_
      refine va_get (D := G.1) (ci := 13) (v := .ref (ad 57)) (C := RX11) (T := TX11) (N := 11) hx hb hT inX11 hown hK hP 0 (ix_at (lt71 (by omega)) (cX_0 G ad S)) rfl 4 (by decide) (hT _ m2_73) (fun _ h9 => h9) rfl (fk_get fk_cX11_feed_0 18 rfl) ?_
      refine va_get (D := G.1) (ci := 11) (v := .int (fF S 57 1)) (C := RX9) (T := TX9) (N := 9) hx hb hT inX9 hown hK hP 57 (ix_at (lt71 (by omega)) (cX_text G ad S)) rfl 1 (by decide) (hT _ m2_4) (fun _ h9 => h9) rfl (fk_get fk_cX11_feed_0 19 rfl) ?_
      rw [ht]
      refine lv_iload_n hx hb (fk_get fk_cX11_feed_0 20 rfl) rfl (lv_at hl 1 rfl) ?_
      refine lv_i2b hx hb (fk_get fk_cX11_feed_0 21 rfl) rfl ?_
      rw [show (x).toInt8.toInt32 = x from (fd_i2b (by assumption))]
      refine r_bast hx hb hK hP hD hS 58 2 (ix_at (lt71 (by omega)) (cX_arr (show isA 58 2 100 from by decide))) rfl (j := t) (rfl) (by omega) (by decide) (fk_get fk_cX11_feed_0 22 rfl) (fun H locs hP hD hS => ?_)
      rw [pX_arr (G := G) (ad := ad) (S := S) (lt71 (by omega)) (show isA 58 2 100 from by decide) (upd (fA S 58) t (vp_nar .byte (x)))] at hP hD
      have hX_5 : XI (setA S 58 (upd (fA S 58) t (vp_nar .byte (x)))) := XI.sA hX _ (by omega)
      have hF_6 : Fr (fun j k => (j = 57 ∧ k = 1) ∨ (j = 58 ∧ k = 99)) S (setA S 58 (upd (fA S 58) t (vp_nar .byte (x)))) := Fr.sA (Fr.rf : Fr (fun j k => (j = 57 ∧ k = 1) ∨ (j = 58 ∧ k = 99)) S S) (by omega)
      refine lv_aload_n hx hb (fk_get fk_cX11_feed_0 23 rfl) rfl (lv_at hl 0 rfl) ?_
      refine va_get (D := G.1) (ci := 13) (v := .ref (ad 57)) (C := RX11) (T := TX11) (N := 11) hx hb hT inX11 hown hK hP 0 (ix_at (lt71 (by omega)) (cX_0 G ad (setA S 58 (upd (fA S 58) t (vp_nar .byte (x)))))) rfl 4 (by decide) (hT _ m2_73) (fun _ h9 => h9) rfl (fk_get fk_cX11_feed_0 24 rfl) ?_
      refine lv_dup hx hb (fk_get fk_cX11_feed_0 25 rfl) rfl ?_
      refine va_get (D := G.1) (ci := 11) (v := .int (fF (setA S 58 (upd (fA S 58) t (vp_nar .byte (x)))) 57 1)) (C := RX9) (T := TX9) (N := 9) hx hb hT inX9 hown hK hP 57 (ix_at (lt71 (by omega)) (cX_text G ad (setA S 58 (upd (fA S 58) t (vp_nar .byte (x)))))) rfl 1 (by decide) (hT _ m2_4) (fun _ h9 => h9) rfl (fk_get fk_cX11_feed_0 26 rfl) ?_
      rw [show fF (setA S 58 (upd (fA S 58) t (vp_nar .byte (x)))) 57 1 = (fF S 57 1) from by simp [fF_setF, fF_setR, fF_setA, fF_setL]]
      rw [ht]
      refine lv_iconst (v := 1) hx hb (fk_get fk_cX11_feed_0 27 rfl) (by decide) ?_
      refine lv_iadd hx hb (fk_get fk_cX11_feed_0 28 rfl) ?_
      rw [show ((nI t) + 1) = (nI (t + 1)) from (nI_1 t)]
      refine va_put (D := G.1) (ci := 11) (v := .int ((nI (t + 1)))) (ty := .int) (C := RX9) (T := TX9) (N := 9) hx hb hT inX9 tyX9 tyX9_ok nmX9 hown hK hP hD hS 57 (ix_at (lt71 (by omega)) (cX_text G ad (setA S 58 (upd (fA S 58) t (vp_nar .byte (x)))))) rfl 1 (by decide) (hT _ m2_4) (fun _ h9 => h9) rfl (by decide +kernel) rfl rfl (Nat.le_of_ble_eq_true rfl) (fk_get fk_cX11_feed_0 29 rfl) (fun H locs hP hD hS => ?_)
      rw [pX_text_1 (S := (setA S 58 (upd (fA S 58) t (vp_nar .byte (x))))) ((nI (t + 1)))] at hP hD
      have hX_7 : XI (setF (setA S 58 (upd (fA S 58) t (vp_nar .byte (x)))) 57 1 ((nI (t + 1)))) := XI.tl (n := (t + 1)) hX_5 (by omega)
      have hF_8 : Fr (fun j k => (j = 57 ∧ k = 1) ∨ (j = 58 ∧ k = 99)) S (setF (setA S 58 (upd (fA S 58) t (vp_nar .byte (x)))) 57 1 ((nI (t + 1)))) := Fr.sF hF_6 (by omega)
      refine lv_aload_n hx hb (fk_get fk_cX11_feed_0 30 rfl) rfl (lv_at hl 0 rfl) ?_
      refine va_get (D := G.1) (ci := 13) (v := .ref (ad 57)) (C := RX11) (T := TX11) (N := 11) hx hb hT inX11 hown hK hP 0 (ix_at (lt71 (by omega)) (cX_0 G ad (setF (setA S 58 (upd (fA S 58) t (vp_nar .byte (x)))) 57 1 ((nI (t + 1)))))) rfl 4 (by decide) (hT _ m2_73) (fun _ h9 => h9) rfl (fk_get fk_cX11_feed_0 31 rfl) ?_
      refine va_get (D := G.1) (ci := 11) (v := .int (fF (setF (setA S 58 (upd (fA S 58) t (vp_nar .byte (x)))) 57 1 ((nI (t + 1)))) 57 1)) (C := RX9) (T := TX9) (N := 9) hx hb hT inX9 hown hK hP 57 (ix_at (lt71 (by omega)) (cX_text G ad (setF (setA S 58 (upd (fA S 58) t (vp_nar .byte (x)))) 57 1 ((nI (t + 1)))))) rfl 1 (by decide) (hT _ m2_4) (fun _ h9 => h9) rfl (fk_get fk_cX11_feed_1 0 rfl) ?_
      rw [show fF (setF (setA S 58 (upd (fA S 58) t (vp_nar .byte (x)))) 57 1 ((nI (t + 1)))) 57 1 = (nI (t + 1)) from by simp [fF_setF, fF_setR, fF_setA, fF_setL]]
      subst hQ
      have hpost : XI (setF (setA S 58 (upd (fA S 58) t (vp_nar .byte (x)))) 57 1 ((nI (t + 1)))) ∧ Fr (fun j k => (j = 57 ∧ k = 1) ∨ (j = 58 ∧ k = 99)) S (setF (setA S 58 (upd (fA S 58) t (vp_nar .byte (x)))) 57 1 ((nI (t + 1)))) ∧ FdP t x ((nI (t + 1)) : Int32) S (setF (setA S 58 (upd (fA S 58) t (vp_nar .byte (x)))) 57 1 ((nI (t + 1)))) := by
        exact ⟨hX_7, hF_8, by first | exact Or.inl ⟨by assumption, rfl, rfl⟩ | exact Or.inr (Or.inl ⟨by assumption, by omega, rfl, rfl⟩) | exact Or.inr (Or.inr ⟨by assumption, by omega, rfl, by rw [fd_nar (by assumption)]⟩)⟩
      exact W.iret (v := (nI (t + 1))) hx hb hr (fun t_ ht_ hW_ => ⟨⟨(nI (t + 1)), (setF (setA S 58 (upd (fA S 58) t (vp_nar .byte (x)))) 57 1 ((nI (t + 1)))), rfl, hpost, by rw [ht_]; exact hP, va_K.moved hW_.alike hK, hD⟩, hS.F ht_⟩) hS.2.2 (fk_get fk_cX11_feed_1 1 rfl)
    have q_c_4 : 100 ≤ t := ci_nlt (a := t) (b := 100) (by omega) (by omega) c_4
    refine lv_bipush (v := (-4)) hx hb (fk_get fk_cX11_feed_0 12 rfl) (by decide) ?_
    subst hQ
    have hpost : XI S ∧ Fr (fun j k => (j = 57 ∧ k = 1) ∨ (j = 58 ∧ k = 99)) S S ∧ FdP t x ((-4) : Int32) S S := by
      exact ⟨hX, (Fr.rf : Fr (fun j k => (j = 57 ∧ k = 1) ∨ (j = 58 ∧ k = 99)) S S), by first | exact Or.inl ⟨by assumption, rfl, rfl⟩ | exact Or.inr (Or.inl ⟨by assumption, by omega, rfl, rfl⟩) | exact Or.inr (Or.inr ⟨by assumption, by omega, rfl, by rw [fd_nar (by assumption)]⟩)⟩
    exact W.iret (v := (-4)) hx hb hr (fun t_ ht_ hW_ => ⟨⟨(-4), S, rfl, hpost, by rw [ht_]; exact hP, va_K.moved hW_.alike hK, hD⟩, hS.F ht_⟩) hS.2.2 (fk_get fk_cX11_feed_0 13 rfl)
  have p_c_3 := if1_t hw_2 c_3
  refine lv_bipush (v := (-2)) hx hb (fk_get fk_cX11_feed_0 5 rfl) (by decide) ?_
  subst hQ
  have hpost : XI S ∧ Fr (fun j k => (j = 57 ∧ k = 1) ∨ (j = 58 ∧ k = 99)) S S ∧ FdP t x ((-2) : Int32) S S := by
    exact ⟨hX, (Fr.rf : Fr (fun j k => (j = 57 ∧ k = 1) ∨ (j = 58 ∧ k = 99)) S S), by first | exact Or.inl ⟨by assumption, rfl, rfl⟩ | exact Or.inr (Or.inl ⟨by assumption, by omega, rfl, rfl⟩) | exact Or.inr (Or.inr ⟨by assumption, by omega, rfl, by rw [fd_nar (by assumption)]⟩)⟩
  exact W.iret (v := (-2)) hx hb hr (fun t_ ht_ hW_ => ⟨⟨(-2), S, rfl, hpost, by rw [ht_]; exact hP, va_K.moved hW_.alike hK, hD⟩, hS.F ht_⟩) hS.2.2 (fk_get fk_cX11_feed_0 6 rfl)
