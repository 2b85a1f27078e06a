abbrev Cds := List (Int32 × Int32)
def CdP (S S' : FS) (c : Nat) (L : Cds) : Prop := fF S' 57 7 = nI (c + L.length) ∧ (∀ i, i < c → fA S' 59 i = fA S 59 i ∧ fA S' 60 i = fA S 60 i) ∧ ∀ i, i < L.length → fA S' 59 (c + i) = (L.getD i (0, 0)).1 ∧ fA S' 60 (c + i) = (L.getD i (0, 0)).2
theorem CdP.nil {S : FS} {c : Nat} (h : fF S 57 7 = nI c) : CdP S S c [] := ⟨h, fun _ _ => ⟨rfl, rfl⟩, fun i hi => absurd hi (Nat.not_lt_zero i)⟩
theorem CdP.base {P : Nat → Nat → Prop} {S S1 U : FS} {c : Nat} {L : Cds} (hF : Fr P S S1) (n1 : ¬ P 59 99) (n2 : ¬ P 60 99) (h : CdP S1 U c L) : CdP S U c L := by
  have e1 := hF.A (j := 59) (lt71 (by omega)) n1
  have e2 := hF.A (j := 60) (lt71 (by omega)) n2
  exact ⟨h.1, fun i hi => by rw [← e1, ← e2]; exact h.2.1 i hi, h.2.2⟩
theorem CdP.keep {P : Nat → Nat → Prop} {S U V : FS} {c : Nat} {L : Cds} (h : CdP S U c L) (hF : Fr P U V) (n0 : ¬ P 57 7) (n1 : ¬ P 59 99) (n2 : ¬ P 60 99) : CdP S V c L := by
  have e1 := hF.A (j := 59) (lt71 (by omega)) n1
  have e2 := hF.A (j := 60) (lt71 (by omega)) n2
  exact ⟨(hF.F (lt71 (by omega)) n0).trans h.1, fun i hi => by rw [e1, e2]; exact h.2.1 i hi, fun i hi => by rw [e1, e2]; exact h.2.2 i hi⟩
theorem CdP.app {S U V : FS} {c : Nat} {L M : Cds} (h : CdP S U c L) (k : CdP U V (c + L.length) M) : CdP S V c (L ++ M) := by
  refine ⟨by rw [k.1, List.length_append, Nat.add_assoc], fun i hi => ?_, fun i hi => ?_⟩
  · have a := k.2.1 i (by omega)
    have b := h.2.1 i hi
    exact ⟨a.1.trans b.1, a.2.trans b.2⟩
  · rw [List.length_append] at hi
    by_cases q : i < L.length
    · have a := k.2.1 (c + i) (by omega)
      have b := h.2.2 i q
      rw [List.getD_eq_getElem?_getD, List.getElem?_append_left q, ← List.getD_eq_getElem?_getD]
      exact ⟨a.1.trans b.1, a.2.trans b.2⟩
    · obtain ⟨j, rfl⟩ : ∃ j, i = L.length + j := ⟨i - L.length, by omega⟩
      have a := k.2.2 j (by omega)
      rw [List.getD_eq_getElem?_getD, List.getElem?_append_right (by omega), Nat.add_sub_cancel_left, ← List.getD_eq_getElem?_getD, ← Nat.add_assoc]
      exact a
theorem CdP.put {S U V : FS} {c : Nat} {L : Cds} {a x : Int32} (h : CdP S U c L) (k : fF V 57 7 = nI (c + L.length + 1) ∧ fA V 59 = upd (fA U 59) (c + L.length) a ∧ fA V 60 = upd (fA U 60) (c + L.length) x) : CdP S V c (L ++ [(a, x)]) := by
  refine h.app ⟨k.1, fun i hi => ?_, fun i hi => ?_⟩
  · rw [k.2.1, k.2.2, pk_un (by omega), pk_un (by omega)]
    exact ⟨rfl, rfl⟩
  · have e : i = 0 := by simpa using hi
    subst e
    rw [k.2.1, k.2.2, Nat.add_zero, pk_us, pk_us]
    exact ⟨rfl, rfl⟩
/-- what a reading leaves -/
def RdP (x : Option Cds × Nat) (c : Nat) (r : Int32) (S S' : FS) : Prop := fF S' 57 2 = nI x.2 ∧ ((x.1 = none ∧ r = 0) ∨ ∃ L, x.1 = some L ∧ r = 1 ∧ CdP S S' c L)
theorem tk_y {τ : Nat → Int32} {p : Nat} {c r : Int32} {S' : FS} (h : TkP τ p c r S') (n : ¬ r = 0) : τ p = c ∧ fF S' 57 2 = nI (p + 1) := h.elim (fun q => q.2) (fun q => absurd q.1 n)
theorem tk_n {τ : Nat → Int32} {p : Nat} {c r : Int32} {S' : FS} (h : TkP τ p c r S') (n : r = 0) : ¬ τ p = c ∧ fF S' 57 2 = nI p := h.elim (fun q => absurd (n.symm.trans q.1) (by decide)) (fun q => q.2)
theorem rd_n {x : Option Cds × Nat} {c : Nat} {r : Int32} {S S' : FS} (h : RdP x c r S S') (n : r = 0) : x.1 = none ∧ fF S' 57 2 = nI x.2 := by
  obtain ⟨a, b | ⟨L, b1, b2, b3⟩⟩ := h
  · exact ⟨b.1, a⟩
  · exact absurd (n.symm.trans b2) (by decide)
theorem rd_y {x : Option Cds × Nat} {c : Nat} {r : Int32} {S S' : FS} (h : RdP x c r S S') (n : ¬ r = 0) : ∃ L, x.1 = some L ∧ fF S' 57 2 = nI x.2 ∧ CdP S S' c L := by
  obtain ⟨a, b | ⟨L, b1, b2, b3⟩⟩ := h
  · exact absurd b.2 n
  · exact ⟨L, b1, a, b3⟩
theorem rd_0 {x : Option Cds × Nat} {q c : Nat} {S S' : FS} (h : x = (none, q)) (e : fF S' 57 2 = nI q) : RdP x c 0 S S' := by
  subst h
  exact ⟨e, Or.inl ⟨rfl, rfl⟩⟩
theorem rd_1 {x : Option Cds × Nat} {L : Cds} {q c : Nat} {S S' : FS} (h : x = (some L, q)) (e : fF S' 57 2 = nI q) (k : CdP S S' c L) : RdP x c 1 S S' := by
  subst h
  exact ⟨e, Or.inr ⟨L, rfl, rfl, k⟩⟩
theorem nu_n {τ : Nat → Int32} {p : Nat} {r : Int32} {S' : FS} (h : NuP τ p r S') (n : r = 0) : (numP τ p).1 = none ∧ fF S' 57 2 = nI (numP τ p).2 := by
  obtain ⟨a, b | ⟨L, b1, b2, b3⟩⟩ := h
  · exact ⟨b.1, a⟩
  · exact absurd (n.symm.trans b2) (by decide)
theorem nu_y {τ : Nat → Int32} {p : Nat} {r : Int32} {S' : FS} (h : NuP τ p r S') (n : ¬ r = 0) : ∃ v, (numP τ p).1 = some v ∧ fF S' 57 2 = nI (numP τ p).2 ∧ fF S' 57 8 = v := by
  obtain ⟨a, b | ⟨L, b1, b2, b3⟩⟩ := h
  · exact absurd b.2 n
  · exact ⟨L, b1, a, b3⟩
section ONE
variable {α : Type} {A : Al α} {τ : Nat → Int32} {d p : Nat}
theorem one_33 (h : τ p = 33) : oneP A τ (d + 1) p = thn (oneP A τ d (p + 1)) (fun v q => (some (A.2.1 v), q)) := by
  conv => lhs; unfold oneP
  rw [if_pos h]
theorem one_40 (n : ¬ τ p = 33) (h : τ p = 40) : oneP A τ (d + 1) p = thn (anyP A (oneP A τ d) τ (p + 1)) (fun v q => if τ q = 41 then (some v, q + 1) else (none, q)) := by
  conv => lhs; unfold oneP
  rw [if_neg n, if_pos h]
theorem one_t (n : ¬ τ p = 33) (n2 : ¬ τ p = 40) : oneP A τ (d + 1) p = tstP A τ p := by
  conv => lhs; unfold oneP
  rw [if_neg n, if_neg n2]
end ONE
theorem tst_0 {α : Type} {A : Al α} {τ : Nat → Int32} {p : Nat} (h : lix (τ p) < 0) : tstP A τ p = (none, p) := by unfold tstP; rw [if_pos h]
theorem tst_1 {α : Type} {A : Al α} {τ : Nat → Int32} {p : Nat} (h : ¬ lix (τ p) < 0) (k : cix (τ (p + 1)) < 0) : tstP A τ p = (none, p + 1) := by unfold tstP; rw [if_neg h, if_pos k]
theorem tst_2 {α : Type} {A : Al α} {τ : Nat → Int32} {p : Nat} (h : ¬ lix (τ p) < 0) (k : ¬ cix (τ (p + 1)) < 0) : tstP A τ p = thn (numP τ (p + 2)) (fun n q => (some (A.1 (lix (τ p) * 3 + cix (τ (p + 1))) n), q)) := by unfold tstP; rw [if_neg h, if_neg k]
theorem seq_no {α : Type} {f : Nat → Option α × Nat} {op : α → α → α} {sep : Int32} {τ : Nat → Int32} {v : α} {p : Nat} (h : ¬ τ p = sep) : ∀ k, seqP f op sep τ k v p = (some v, p)
  | 0 => rfl
  | k + 1 => by unfold seqP; rw [if_neg h]
theorem seq_s {α : Type} {f : Nat → Option α × Nat} {op : α → α → α} {sep : Int32} {τ : Nat → Int32} {v : α} {p k : Nat} (hk : k < 100) (h : τ p = sep) : seqP f op sep τ (100 - k) v p = thn (f (p + 1)) (fun w q => seqP f op sep τ (100 - (k + 1)) (op v w) q) := by
  rw [show 100 - k = (100 - (k + 1)) + 1 by omega]
  conv => lhs; unfold seqP
  rw [if_pos h]
theorem op_len (L M : Cds) (x : Int32 × Int32) : (L ++ M ++ [x]).length = L.length + M.length + 1 := by
  rw [List.length_append, List.length_append, List.length_cons, List.length_nil]
set_option maxHeartbeats 800000 in
set_option maxRecDepth 100000 in
theorem c_x9_one4E (l : Launch) (G : GG) (ad : Nat → Nat) (S : FS) (sz : Nat) (z pz c : Nat) (τ : Nat → Int32) (hTx : TXz S z τ) (hp : fF S 57 2 = nI pz) (hpz : pz ≤ z) (hc : fF S 57 7 = nI c) (hcp : c ≤ pz) (hX : XI S) : Met l yX9_readOne (Cond.code yX9_readOne cX9_readOne 4 (some .boolean) :: TBL) ({ frames := 7, cells := 0, slots := 0, locals := 198 } : Room) (PcE G (wX G ad S) sz [.ref (ad 57), .int (4)]) (va_Qi (fun (r : Int32) (S' : FS) => XI S' ∧ Fr (fun j k => (j = 57 ∧ (k = 2 ∨ k = 7 ∨ k = 8)) ∨ ((j = 59 ∨ j = 60) ∧ k = 99)) S S' ∧ RdP (oneP cdA τ 0 pz) c r S S') (fun S' t => BW G (va_A (wX G ad S) sz) (wX G ad S') t) (va_A (wX G ad S) sz)) 0 0 (va_A (wX G ad S) sz) := by
  refine Met.ofW (cc := cX9_readOne) (maxL := 4) (ret := (some .boolean)) (by decide) rfl ?_
  intro p e s m args below meth c₀ s₁ B hml hv
  obtain ⟨rfl, hsz, hP, hK, hD0, hE⟩ := hv
  have hx := B.exec
  have hb := B.bytes
  have hr := B.returns
  have hT : ∀ w ∈ TBL, w.before ([.ref (ad 57), .int (4)] : List Value).toArray s = true := fun w h => atoms_spec (ws := Cond.code yX9_readOne cX9_readOne 4 (some .boolean) :: TBL) B.pre w (List.mem_cons_of_mem _ h)
  have hown : s.vm.findClass "LittleMore$Text" = some m.cls := findClass_of_methodNamed B.named
  have hlocks := B.notSynchronized
  subst hsz
  have hD := hD0.self (sz := s.heap.size)
  generalize hAe : va_A (wX G ad S) s.heap.size = A at hD hE ⊢
  have hA : ∀ q : Nat, s.heap.size ≤ q → A q := fun q h => by rw [← hAe]; exact Or.inr h
  have hS : va_S A s.heap s.heap [] := va_S.rf
  have hP : va_P G.1 vwCl (wX G ad S) s.heap := hP
  have hl := lv_entry ([.ref (ad 57), .int (4)]) (n := 4) (Nat.le_of_ble_eq_true rfl)
  rw [lg_entry_eq]
  generalize (lg_sl ([.ref (ad 57), .int (4)]) ++ List.replicate (4 - (lg_sl ([.ref (ad 57), .int (4)])).length) Slot.unset).toArray = ls at hl ⊢
  have hl : lv_has ls 4 [(0, .ref (ad 57)), (1, .int (4))] := hl
  refine W_abs (fun Q hQ => ?_)
  generalize ([.ref (ad 57), .int (4)] : List Value).toArray = args at hT hQ ⊢
  have hz1 := hTx.2.1
  refine lv_iload_n hx hb (fk_get fk_cX9_readOne_0 0 rfl) rfl (lv_at hl 1 rfl) ?_
  refine lv_iconst (v := 4) hx hb (fk_get fk_cX9_readOne_0 1 rfl) (by decide) ?_
  refine lv_icmp_ge (tgt := 40) hx hb (fk_get fk_cX9_readOne_0 2 rfl) (by decide) (fun _ => ?_) (fun c_1 => absurd ((by decide)) c_1)
  refine lv_iload_n hx hb (fk_get fk_cX9_readOne_0 22 rfl) rfl (lv_at hl 1 rfl) ?_
  refine lv_iconst (v := 4) hx hb (fk_get fk_cX9_readOne_0 23 rfl) (by decide) ?_
  refine lv_icmp_ge (tgt := 79) hx hb (fk_get fk_cX9_readOne_0 24 rfl) (by decide) (fun _ => ?_) (fun c_2 => absurd ((by decide)) c_2)
  refine lv_aload_n hx hb (fk_get fk_cX9_readOne_1 11 rfl) rfl (lv_at hl 0 rfl) ?_
  refine va_ldcS (q := G.2.2.2 (310 + 4)) (tx := txS 4) hx hb hown (hE.2.2.2.2.1.2 4 (by omega)) (fk_get fk_cX9_readOne_1 12 rfl) ?_
  have hFc := va_self hD hS hA
  refine va_calli (va_runV (As := [.ref (G.2.2.2 (310 + 4))]) (rest := []) ⟨hx, hb, hml, hown, hT⟩ (c_x9_tooE l G ad S s.heap.size (4) (z) (pz) (τ) ((by omega : 4 < 6)) (by first | assumption | omega) (by first | assumption | omega) (by first | assumption | omega) (hX)) (tV 1 hT m3_73 m3_75 mp_10 m1_12 m3_76 rfl rfl (by decide +kernel) ⟨Nat.le_of_ble_eq_true rfl, Nat.le_of_ble_eq_true rfl⟩) ⟨PcE_blind, va_recv hK hP (ci := 11) (q0 := 57) rfl (ix_at (lt71 (by omega)) (cX_text G ad S)), PcE_of hP hK hD hE hS (fun q h => hFc q h) _⟩ rfl rfl hl.1 rfl (lv_room (Nat.le_of_ble_eq_true rfl)) (fk_get fk_cX9_readOne_1 13 rfl) ⟨Nat.zero_le _, Nat.zero_le _⟩) hS (fun q _ h => hFc q h) hFc (fun r_3 S_5 t_ H locs ht_ hvm_ hw_4 hB_ hz_ hk_ hS => ?_)
  obtain ⟨hP, -, hD1_⟩ := hB_
  rw [ht_] at hP
  have hD : va_D A (wX G ad S_5) := hD1_.weaken (fun k q _ h => hFc q.1 h)
  try dsimp only at hw_4
  obtain ⟨hX_6, hF_7_, hw_4⟩ := hw_4
  have hF_7 : Fr (fun j k => (j = 57 ∧ (k = 2 ∨ k = 7 ∨ k = 8)) ∨ ((j = 59 ∨ j = 60) ∧ k = 99)) S S_5 := Fr.trans (Fr.rf : Fr (fun j k => (j = 57 ∧ (k = 2 ∨ k = 7 ∨ k = 8)) ∨ ((j = 59 ∨ j = 60) ∧ k = 99)) S S) (Fr.mono hF_7_ (fun j k h => by omega))
  have hK82 := hw_4
  have hf82 := hF_7_
  have hT82 := hTx.fr hF_7_ (fun q => by omega) (fun q => by omega)
  have hc82 := (Fr.F hF_7_ (j := 57) (k := 7) (lt71 (by omega)) (fun q => by omega)).trans hc
  have hl82 := hK82.1.1 rfl
  subst hl82
  refine lv_istore_n (lv' := [(2, .int ((lix (τ pz)))), (0, .ref (ad 57)), (1, .int (4))]) hx hb (fk_get fk_cX9_readOne_1 14 rfl) rfl hl (by decide) rfl (fun ls hl => ?_)
  refine lv_iload_n hx hb (fk_get fk_cX9_readOne_1 15 rfl) rfl (lv_at hl 0 rfl) ?_
  refine lv_if_ge (tgt := 94) hx hb (fk_get fk_cX9_readOne_1 16 rfl) (by decide) (fun c_8 => ?_) (fun c_8 => ?_)
  · have hn82 : ¬ lix (τ pz) < 0 := Int32.not_lt.mpr c_8
    have hz82 := hTx.lt rfl (lix_ne hn82)
    have hp82 := (hK82.2.resolve_left (fun q => hn82 q.1)).2
    refine lv_aload_n hx hb (fk_get fk_cX9_readOne_1 19 rfl) rfl (lv_at hl 1 rfl) ?_
    refine va_ldcS (q := G.2.2.2 (310 + 5)) (tx := txS 5) hx hb hown (hE.2.2.2.2.1.2 5 (by omega)) (fk_get fk_cX9_readOne_1 20 rfl) ?_
    have hFc := va_self hD hS hA
    refine va_calli (va_runV (As := [.ref (G.2.2.2 (310 + 5))]) (rest := []) ⟨hx, hb, hml, hown, hT⟩ (c_x9_tooE l G ad S_5 H.size (5) (z) (pz + 1) (τ) ((by omega : 5 < 6)) (by first | assumption | omega) (by first | assumption | omega) (by first | assumption | omega) (hX_6)) (tV 1 hT m3_73 m3_75 mp_10 m1_12 m3_76 rfl rfl (by decide +kernel) ⟨Nat.le_of_ble_eq_true rfl, Nat.le_of_ble_eq_true rfl⟩) ⟨PcE_blind, va_recv hK hP (ci := 11) (q0 := 57) rfl (ix_at (lt71 (by omega)) (cX_text G ad S_5)), PcE_of hP hK hD hE hS (fun q h => hFc q h) _⟩ rfl rfl hl.1 rfl (lv_room (Nat.le_of_ble_eq_true rfl)) (fk_get fk_cX9_readOne_1 21 rfl) ⟨Nat.zero_le _, Nat.zero_le _⟩) hS (fun q _ h => hFc q h) hFc (fun r_9 S_11 t_ H locs ht_ hvm_ hw_10 hB_ hz_ hk_ hS => ?_)
    obtain ⟨hP, -, hD1_⟩ := hB_
    rw [ht_] at hP
    have hD : va_D A (wX G ad S_11) := hD1_.weaken (fun k q _ h => hFc q.1 h)
    try dsimp only at hw_10
    obtain ⟨hX_12, hF_13_, hw_10⟩ := hw_10
    have hF_13 : Fr (fun j k => (j = 57 ∧ (k = 2 ∨ k = 7 ∨ k = 8)) ∨ ((j = 59 ∨ j = 60) ∧ k = 99)) S S_11 := Fr.trans hF_7 (Fr.mono hF_13_ (fun j k h => by omega))
    have hK97 := hw_10
    have hf97 := hF_13_
    have hT97 := hT82.fr hF_13_ (fun q => by omega) (fun q => by omega)
    have hc97 := (Fr.F hF_13_ (j := 57) (k := 7) (lt71 (by omega)) (fun q => by omega)).trans hc82
    have hl97 := hK97.1.2 rfl
    subst hl97
    refine lv_istore_n (lv' := [(3, .int ((cix (τ (pz + 1))))), (2, .int ((lix (τ pz)))), (0, .ref (ad 57)), (1, .int (4))]) hx hb (fk_get fk_cX9_readOne_1 22 rfl) rfl hl (by decide) rfl (fun ls hl => ?_)
    refine lv_iload_n hx hb (fk_get fk_cX9_readOne_1 23 rfl) rfl (lv_at hl 0 rfl) ?_
    refine lv_if_lt (tgt := 132) hx hb (fk_get fk_cX9_readOne_1 24 rfl) (by decide) (fun c_14 => ?_) (fun c_14 => ?_)
    · try have hn97 : cix (τ (pz + 1)) < 0 := by assumption
      try have hp97 := (hK97.2.resolve_right (fun q => q.1 hn97)).2
      refine lv_iconst (v := 0) hx hb (fk_get fk_cX9_readOne_2 8 rfl) (by decide) ?_
      subst hQ
      have hpost : XI S_11 ∧ Fr (fun j k => (j = 57 ∧ (k = 2 ∨ k = 7 ∨ k = 8)) ∨ ((j = 59 ∨ j = 60) ∧ k = 99)) S S_11 ∧ RdP (oneP cdA τ 0 pz) c (0 : Int32) S S_11 := by
        exact ⟨hX_12, hF_13, by first | exact rd_0 ((tst_0 hn82)) hp82 | exact rd_0 ((tst_1 hn82 hn97)) hp97 | exact rd_0 (((tst_2 hn82 hn97).trans (thn_n e106))) hp106 | exact rd_1 (((tst_2 hn82 hn97).trans (thn_s e106))) hp122 (((((CdP.nil hc).keep hf82 (fun q => by omega) (fun q => by omega) (fun q => by omega)).keep hf97 (fun q => by omega) (fun q => by omega) (fun q => by omega)).keep hf106 (fun q => by omega) (fun q => by omega) (fun q => by omega)).put hP122)⟩
      exact W.zret (v := 0) hx hb hr rfl (fun t_ ht_ hW_ => ⟨⟨0, S_11, rfl, hpost, by rw [ht_]; exact hP, va_K.moved hW_.alike hK, hD⟩, hS.F ht_⟩) hS.2.2 (fk_get fk_cX9_readOne_2 9 rfl)
    have hn97 : ¬ cix (τ (pz + 1)) < 0 := by first | assumption | exact Int32.not_lt.mpr c_14
    have hz97 := hTx.lt rfl (cix_ne hn97)
    have hp97 : fF S_11 57 2 = nI (pz + 2) := (hK97.2.resolve_left (fun q => hn97 q.1)).2
    refine lv_aload_n hx hb (fk_get fk_cX9_readOne_1 25 rfl) rfl (lv_at hl 2 rfl) ?_
    have hFc := va_self hD hS hA
    refine va_calli (va_runV (As := []) (rest := []) ⟨hx, hb, hml, hown, hT⟩ (c_x9_numE l G ad S_11 H.size (z) (pz + 2) (τ) (by first | assumption | omega) (by first | assumption | omega) (by first | assumption | omega) (hX_12)) (tV 0 hT m3_49 m3_51 mp_5 m1_12 m3_52 rfl rfl (by decide +kernel) ⟨Nat.le_of_ble_eq_true rfl, Nat.le_of_ble_eq_true rfl⟩) ⟨PcW_blind, va_recv hK hP (ci := 11) (q0 := 57) rfl (ix_at (lt71 (by omega)) (cX_text G ad S_11)), PcW_of hP hK hD _⟩ rfl rfl hl.1 rfl (lv_room (Nat.le_of_ble_eq_true rfl)) (fk_get fk_cX9_readOne_1 26 rfl) ⟨Nat.zero_le _, Nat.zero_le _⟩) hS (fun q _ h => hFc q h) hFc (fun r_15 S_17 t_ H locs ht_ hvm_ hw_16 hB_ hz_ hk_ hS => ?_)
    obtain ⟨hP, -, hD1_⟩ := hB_
    rw [ht_] at hP
    have hD : va_D A (wX G ad S_17) := hD1_.weaken (fun k q _ h => hFc q.1 h)
    try dsimp only at hw_16
    obtain ⟨hX_18, hF_19_, hw_16⟩ := hw_16
    have hF_19 : Fr (fun j k => (j = 57 ∧ (k = 2 ∨ k = 7 ∨ k = 8)) ∨ ((j = 59 ∨ j = 60) ∧ k = 99)) S S_17 := Fr.trans hF_13 (Fr.mono hF_19_ (fun j k h => by omega))
    have hK106 := hw_16
    have hf106 := hF_19_
    have hT106 := hT97.fr hF_19_ (fun q => by omega) (fun q => by omega)
    have hc106 := (Fr.F hF_19_ (j := 57) (k := 7) (lt71 (by omega)) (fun q => by omega)).trans hc97
    refine lv_if_eq (tgt := 132) hx hb (fk_get fk_cX9_readOne_1 27 rfl) (by decide) (fun c_20 => ?_) (fun c_20 => ?_)
    · obtain ⟨e106, hp106⟩ := nu_n hK106 c_20
      refine lv_iconst (v := 0) hx hb (fk_get fk_cX9_readOne_2 8 rfl) (by decide) ?_
      subst hQ
      have hpost : XI S_17 ∧ Fr (fun j k => (j = 57 ∧ (k = 2 ∨ k = 7 ∨ k = 8)) ∨ ((j = 59 ∨ j = 60) ∧ k = 99)) S S_17 ∧ RdP (oneP cdA τ 0 pz) c (0 : Int32) S S_17 := by
        exact ⟨hX_18, hF_19, by first | exact rd_0 ((tst_0 hn82)) hp82 | exact rd_0 ((tst_1 hn82 hn97)) hp97 | exact rd_0 (((tst_2 hn82 hn97).trans (thn_n e106))) hp106 | exact rd_1 (((tst_2 hn82 hn97).trans (thn_s e106))) hp122 (((((CdP.nil hc).keep hf82 (fun q => by omega) (fun q => by omega) (fun q => by omega)).keep hf97 (fun q => by omega) (fun q => by omega) (fun q => by omega)).keep hf106 (fun q => by omega) (fun q => by omega) (fun q => by omega)).put hP122)⟩
      exact W.zret (v := 0) hx hb hr rfl (fun t_ ht_ hW_ => ⟨⟨0, S_17, rfl, hpost, by rw [ht_]; exact hP, va_K.moved hW_.alike hK, hD⟩, hS.F ht_⟩) hS.2.2 (fk_get fk_cX9_readOne_2 9 rfl)
    obtain ⟨v106, e106, hp106, hv106⟩ := nu_y hK106 c_20
    obtain ⟨g1, g2, g3⟩ := hTx.num (p := pz + 2) (by omega)
    have g4 := g3 (by rw [e106]; exact fun q => by cases q)
    refine lv_aload_n hx hb (fk_get fk_cX9_readOne_1 28 rfl) rfl (lv_at hl 2 rfl) ?_
    refine lv_iload_n hx hb (fk_get fk_cX9_readOne_1 29 rfl) rfl (lv_at hl 1 rfl) ?_
    refine lv_iconst (v := 3) hx hb (fk_get fk_cX9_readOne_1 30 rfl) (by decide) ?_
    refine lv_imul hx hb (fk_get fk_cX9_readOne_1 31 rfl) ?_
    refine lv_iload_n hx hb (fk_get fk_cX9_readOne_2 0 rfl) rfl (lv_at hl 0 rfl) ?_
    refine lv_iadd hx hb (fk_get fk_cX9_readOne_2 1 rfl) ?_
    refine lv_aload_n hx hb (fk_get fk_cX9_readOne_2 2 rfl) rfl (lv_at hl 2 rfl) ?_
    refine va_get (D := G.1) (ci := 11) (v := .int (fF S_17 57 8)) (C := RX9) (T := TX9) (N := 9) hx hb hT inX9 hown hK hP 57 (ix_at (lt71 (by omega)) (cX_text G ad S_17)) rfl 8 (by decide) (hT _ m2_17) (fun _ h9 => h9) rfl (fk_get fk_cX9_readOne_2 3 rfl) ?_
    rw [show (fF S_17 57 8) = v106 from hv106]
    have hFc := va_self hD hS hA
    refine va_calli (va_runV (As := [.int ((((lix (τ pz)) * 3) + (cix (τ (pz + 1))))), .int (v106)]) (rest := []) ⟨hx, hb, hml, hown, hT⟩ (c_x9_putE l G ad S_17 H.size (c) ((((lix (τ pz)) * 3) + (cix (τ (pz + 1))))) (v106) (by first | assumption | omega) (by first | assumption | omega) (hX_18)) (tV 2 hT m3_68 m3_70 mp_9 m1_12 m3_71 rfl rfl (by decide +kernel) ⟨Nat.le_of_ble_eq_true rfl, Nat.le_of_ble_eq_true rfl⟩) ⟨PcW_blind, va_recv hK hP (ci := 11) (q0 := 57) rfl (ix_at (lt71 (by omega)) (cX_text G ad S_17)), PcW_of hP hK hD _⟩ rfl rfl hl.1 rfl (lv_room (Nat.le_of_ble_eq_true rfl)) (fk_get fk_cX9_readOne_2 4 rfl) ⟨Nat.zero_le _, Nat.zero_le _⟩) hS (fun q _ h => hFc q h) hFc (fun r_21 S_23 t_ H locs ht_ hvm_ hw_22 hB_ hz_ hk_ hS => ?_)
    obtain ⟨hP, -, hD1_⟩ := hB_
    rw [ht_] at hP
    have hD : va_D A (wX G ad S_23) := hD1_.weaken (fun k q _ h => hFc q.1 h)
    try dsimp only at hw_22
    obtain ⟨hX_24, hF_25_, hw_22⟩ := hw_22
    have hF_25 : Fr (fun j k => (j = 57 ∧ (k = 2 ∨ k = 7 ∨ k = 8)) ∨ ((j = 59 ∨ j = 60) ∧ k = 99)) S S_23 := Fr.trans hF_19 (Fr.mono hF_25_ (fun j k h => by omega))
    obtain ⟨e_, hP122⟩ := hw_22
    subst e_
    have hp122 := (Fr.F hF_25_ (j := 57) (k := 2) (lt71 (by omega)) (fun q => by omega)).trans hp106
    refine lv_if_eq (tgt := 132) hx hb (fk_get fk_cX9_readOne_2 5 rfl) (by decide) (fun c_26 => absurd c_26 ((by decide))) (fun _ => ?_)
    refine lv_iconst (v := 1) hx hb (fk_get fk_cX9_readOne_2 6 rfl) (by decide) ?_
    refine lv_goto (tgt := 133) hx hb (fk_get fk_cX9_readOne_2 7 rfl) (by decide) ?_
    subst hQ
    have hpost : XI S_23 ∧ Fr (fun j k => (j = 57 ∧ (k = 2 ∨ k = 7 ∨ k = 8)) ∨ ((j = 59 ∨ j = 60) ∧ k = 99)) S S_23 ∧ RdP (oneP cdA τ 0 pz) c (1 : Int32) S S_23 := by
      exact ⟨hX_24, hF_25, by first | exact rd_0 ((tst_0 hn82)) hp82 | exact rd_0 ((tst_1 hn82 hn97)) hp97 | exact rd_0 (((tst_2 hn82 hn97).trans (thn_n e106))) hp106 | exact rd_1 (((tst_2 hn82 hn97).trans (thn_s e106))) hp122 (((((CdP.nil hc).keep hf82 (fun q => by omega) (fun q => by omega) (fun q => by omega)).keep hf97 (fun q => by omega) (fun q => by omega) (fun q => by omega)).keep hf106 (fun q => by omega) (fun q => by omega) (fun q => by omega)).put hP122)⟩
    exact W.zret (v := 1) hx hb hr rfl (fun t_ ht_ hW_ => ⟨⟨1, S_23, rfl, hpost, by rw [ht_]; exact hP, va_K.moved hW_.alike hK, hD⟩, hS.F ht_⟩) hS.2.2 (fk_get fk_cX9_readOne_2 9 rfl)
  have hn82 : lix (τ pz) < 0 := Int32.not_le.mp c_8
  have hp82 := (hK82.2.resolve_right (fun q => q.1 hn82)).2
  refine lv_iload_n hx hb (fk_get fk_cX9_readOne_1 17 rfl) rfl (lv_at hl 0 rfl) ?_
  refine lv_goto (tgt := 100) hx hb (fk_get fk_cX9_readOne_1 18 rfl) (by decide) ?_
  refine lv_istore_n (lv' := [(3, .int ((lix (τ pz)))), (2, .int ((lix (τ pz)))), (0, .ref (ad 57)), (1, .int (4))]) hx hb (fk_get fk_cX9_readOne_1 22 rfl) rfl hl (by decide) rfl (fun ls hl => ?_)
  refine lv_iload_n hx hb (fk_get fk_cX9_readOne_1 23 rfl) rfl (lv_at hl 0 rfl) ?_
  refine lv_if_lt (tgt := 132) hx hb (fk_get fk_cX9_readOne_1 24 rfl) (by decide) (fun _ => ?_) (fun c_27 => absurd (by first | assumption | exact Int32.not_lt.mp (by assumption) | exact Int32.not_le.mp (by assumption) | exact Int32.not_lt.mpr (by assumption) | exact Int32.not_le.mpr (by assumption) ) c_27)
  try have hn97 : cix (τ (pz + 1)) < 0 := by assumption
  try have hp97 := (hK97.2.resolve_right (fun q => q.1 hn97)).2
  refine lv_iconst (v := 0) hx hb (fk_get fk_cX9_readOne_2 8 rfl) (by decide) ?_
  subst hQ
  have hpost : XI S_5 ∧ Fr (fun j k => (j = 57 ∧ (k = 2 ∨ k = 7 ∨ k = 8)) ∨ ((j = 59 ∨ j = 60) ∧ k = 99)) S S_5 ∧ RdP (oneP cdA τ 0 pz) c (0 : Int32) S S_5 := by
    exact ⟨hX_6, hF_7, by first | exact rd_0 ((tst_0 hn82)) hp82 | exact rd_0 ((tst_1 hn82 hn97)) hp97 | exact rd_0 (((tst_2 hn82 hn97).trans (thn_n e106))) hp106 | exact rd_1 (((tst_2 hn82 hn97).trans (thn_s e106))) hp122 (((((CdP.nil hc).keep hf82 (fun q => by omega) (fun q => by omega) (fun q => by omega)).keep hf97 (fun q => by omega) (fun q => by omega) (fun q => by omega)).keep hf106 (fun q => by omega) (fun q => by omega) (fun q => by omega)).put hP122)⟩
  exact W.zret (v := 0) hx hb hr rfl (fun t_ ht_ hW_ => ⟨⟨0, S_5, rfl, hpost, by rw [ht_]; exact hP, va_K.moved hW_.alike hK, hD⟩, hS.F ht_⟩) hS.2.2 (fk_get fk_cX9_readOne_2 9 rfl)
set_option maxHeartbeats 800000 in
set_option maxRecDepth 100000 in
theorem c_x9_all4E (l : Launch) (G : GG) (ad : Nat → Nat) (S : FS) (sz : Nat) (z pz c : Nat) (τ : Nat → Int32) (hTx : TXz S z τ) (hp : fF S 57 2 = nI pz) (hpz : pz ≤ z) (hc : fF S 57 7 = nI c) (hcp : c ≤ pz) (hX : XI S) : Met l yX9_readAll (Cond.code yX9_readAll cX9_readAll 3 (some .boolean) :: TBL) ({ frames := 8, cells := 0, slots := 0, locals := 225 } : Room) (PcE G (wX G ad S) sz [.ref (ad 57), .int (4)]) (va_Qi (fun (r : Int32) (S' : FS) => XI S' ∧ Fr (fun j k => (j = 57 ∧ (k = 2 ∨ k = 7 ∨ k = 8)) ∨ ((j = 59 ∨ j = 60) ∧ k = 99)) S S' ∧ RdP (allP cdA (oneP cdA τ 0) τ pz) c r S S') (fun S' t => BW G (va_A (wX G ad S) sz) (wX G ad S') t) (va_A (wX G ad S) sz)) 0 0 (va_A (wX G ad S) sz) := by
  refine Met.ofW (cc := cX9_readAll) (maxL := 3) (ret := (some .boolean)) (by decide) rfl ?_
  intro p e s m args below meth c₀ s₁ B hml hv
  obtain ⟨rfl, hsz, hP, hK, hD0, hE⟩ := hv
  have hx := B.exec
  have hb := B.bytes
  have hr := B.returns
  have hT : ∀ w ∈ TBL, w.before ([.ref (ad 57), .int (4)] : List Value).toArray s = true := fun w h => atoms_spec (ws := Cond.code yX9_readAll cX9_readAll 3 (some .boolean) :: TBL) B.pre w (List.mem_cons_of_mem _ h)
  have hown : s.vm.findClass "LittleMore$Text" = some m.cls := findClass_of_methodNamed B.named
  have hlocks := B.notSynchronized
  subst hsz
  have hD := hD0.self (sz := s.heap.size)
  generalize hAe : va_A (wX G ad S) s.heap.size = A at hD hE ⊢
  have hA : ∀ q : Nat, s.heap.size ≤ q → A q := fun q h => by rw [← hAe]; exact Or.inr h
  have hS : va_S A s.heap s.heap [] := va_S.rf
  have hP : va_P G.1 vwCl (wX G ad S) s.heap := hP
  have hl := lv_entry ([.ref (ad 57), .int (4)]) (n := 3) (Nat.le_of_ble_eq_true rfl)
  rw [lg_entry_eq]
  generalize (lg_sl ([.ref (ad 57), .int (4)]) ++ List.replicate (3 - (lg_sl ([.ref (ad 57), .int (4)])).length) Slot.unset).toArray = ls at hl ⊢
  have hl : lv_has ls 3 [(0, .ref (ad 57)), (1, .int (4))] := hl
  refine W_abs (fun Q hQ => ?_)
  generalize ([.ref (ad 57), .int (4)] : List Value).toArray = args at hT hQ ⊢
  have hz1 := hTx.2.1
  refine lv_aload_n hx hb (fk_get fk_cX9_readAll_0 0 rfl) rfl (lv_at hl 0 rfl) ?_
  refine lv_iload_n hx hb (fk_get fk_cX9_readAll_0 1 rfl) rfl (lv_at hl 1 rfl) ?_
  have hFc := va_self hD hS hA
  refine va_calli (va_runV (As := [.int (4)]) (rest := []) ⟨hx, hb, hml, hown, hT⟩ (c_x9_one4E l G ad S s.heap.size (z) (pz) (c) (τ) (by first | assumption | omega) (by first | assumption | omega) (by first | assumption | omega) (by first | assumption | omega) (by first | assumption | omega) (hX)) (tV 1 hT m3_64 m3_66 mp_8 m1_12 m3_67 rfl rfl (by decide +kernel) ⟨Nat.le_of_ble_eq_true rfl, Nat.le_of_ble_eq_true rfl⟩) ⟨PcE_blind, va_recv hK hP (ci := 11) (q0 := 57) rfl (ix_at (lt71 (by omega)) (cX_text G ad S)), PcE_of hP hK hD hE hS (fun q h => hFc q h) _⟩ rfl rfl hl.1 rfl (lv_room (Nat.le_of_ble_eq_true rfl)) (fk_get fk_cX9_readAll_0 2 rfl) ⟨Nat.zero_le _, Nat.zero_le _⟩) hS (fun q _ h => hFc q h) hFc (fun r_1 S_3 t_ H locs ht_ hvm_ hw_2 hB_ hz_ hk_ hS => ?_)
  obtain ⟨hP, -, hD1_⟩ := hB_
  rw [ht_] at hP
  have hD : va_D A (wX G ad S_3) := hD1_.weaken (fun k q _ h => hFc q.1 h)
  try dsimp only at hw_2
  obtain ⟨hX_4, hF_5_, hw_2⟩ := hw_2
  have hF_5 : Fr (fun j k => (j = 57 ∧ (k = 2 ∨ k = 7 ∨ k = 8)) ∨ ((j = 59 ∨ j = 60) ∧ k = 99)) S S_3 := Fr.trans (Fr.rf : Fr (fun j k => (j = 57 ∧ (k = 2 ∨ k = 7 ∨ k = 8)) ∨ ((j = 59 ∨ j = 60) ∧ k = 99)) S S) (Fr.mono hF_5_ (fun j k h => by omega))
  have hK2 := hw_2
  have hf2 := hF_5_
  have hT2 := hTx.fr hF_5_ (fun q => by omega) (fun q => by omega)
  refine lv_if_ne (tgt := 10) hx hb (fk_get fk_cX9_readAll_0 3 rfl) (by decide) (fun c_6 => ?_) (fun c_6 => ?_)
  · obtain ⟨L2, e2, hp2, hC2⟩ := rd_y hK2 c_6
    obtain ⟨g1, g2, g3⟩ := hTx.one 0 pz hpz
    have g4 := g3 L2 e2
    refine lv_iconst (v := 0) hx hb (fk_get fk_cX9_readAll_0 6 rfl) (by decide) ?_
    refine lv_istore_n (lv' := [(2, .int (0)), (0, .ref (ad 57)), (1, .int (4))]) hx hb (fk_get fk_cX9_readAll_0 7 rfl) rfl hl (by decide) rfl (fun ls hl => ?_)
    have lp_7 : ∀ (fu : Nat) (k q : Nat) (L : Cds) (SL12 : FS) (H_9 : Heap) (locs_10 : List Loc) (ls : Array Slot),  (XI SL12) → (Fr (fun j k => (j = 57 ∧ (k = 2 ∨ k = 7 ∨ k = 8)) ∨ ((j = 59 ∨ j = 60) ∧ k = 99)) S SL12) → (k ≤ 100) → (100 < k + fu) → (TXz SL12 z τ) → (fF SL12 57 2 = nI q) → (q ≤ z) → (pz + L.length + 1 ≤ q) → (CdP S SL12 c L) → (seqP (oneP cdA τ 0) cdA.2.2.1 38 τ (100 - k) L q = allP cdA (oneP cdA τ 0) τ pz) → va_P G.1 vwCl (wX G ad SL12) H_9 → va_D A (wX G ad SL12) → va_S A s.heap H_9 locs_10 → lv_has ls 3 [(2, .int ((nI k))), (0, .ref (ad 57)), (1, .int (4))] → W p l e ({ frames := 8, cells := 0, slots := 0, locals := 225 } : Room) s m args below meth c₀ H_9 locs_10 0 0 Q (F0 m 12 ls []) := by
      intro fu
      induction fu with
      | zero =>
        intro k q L SL12 H_9 locs_10 ls hXl12 hFl12 hk hf hTl hql hqz hLq hCl hQ2 hP hD hS hl
        exact absurd hf (by omega)
      | succ fu ih =>
        intro k q L SL12 H_9 locs_10 ls hXl12 hFl12 hk hf hTl hql hqz hLq hCl hQ2 hP hD hS hl
        refine lv_iload_n hx hb (fk_get fk_cX9_readAll_0 8 rfl) rfl (lv_at hl 0 rfl) ?_
        refine lv_bipush (v := 100) hx hb (fk_get fk_cX9_readAll_0 9 rfl) (by decide) ?_
        refine lv_icmp_ge (tgt := 53) hx hb (fk_get fk_cX9_readAll_0 10 rfl) (by decide) (fun c_11 => ?_) (fun c_11 => ?_)
        · have q_c_11 : 100 ≤ k := ci_le (a := 100) (b := k) (by omega) (by omega) c_11
          refine lv_iconst (v := 1) hx hb (fk_get fk_cX9_readAll_0 28 rfl) (by decide) ?_
          subst hQ
          have hpost : XI SL12 ∧ Fr (fun j k => (j = 57 ∧ (k = 2 ∨ k = 7 ∨ k = 8)) ∨ ((j = 59 ∨ j = 60) ∧ k = 99)) S SL12 ∧ RdP (allP cdA (oneP cdA τ 0) τ pz) c (1 : Int32) S SL12 := by
            exact ⟨hXl12, hFl12, by first | exact rd_0 (thn_n e2) hp2 | exact rd_1 (hQ2.symm.trans (seq_no n21 _)) hp21 (hCl.keep hf21 (fun q => by omega) (fun q => by omega) (fun q => by omega)) | exact rd_1 (hQ2.symm.trans (by rw [show 100 - k = 0 by omega]; rfl)) hql hCl | exact rd_0 (hQ2.symm.trans ((seq_s (by omega) h21).trans (thn_n e29))) hp29⟩
          exact W.zret (v := 1) hx hb hr rfl (fun t_ ht_ hW_ => ⟨⟨1, SL12, rfl, hpost, by rw [ht_]; exact hP, va_K.moved hW_.alike hK, hD⟩, hS.F ht_⟩) hS.2.2 (fk_get fk_cX9_readAll_0 29 rfl)
        have q_c_11 : k < 100 := ci_nle (a := 100) (b := k) (by omega) (by omega) c_11
        refine lv_aload_n hx hb (fk_get fk_cX9_readAll_0 11 rfl) rfl (lv_at hl 1 rfl) ?_
        refine lv_bipush (v := 38) hx hb (fk_get fk_cX9_readAll_0 12 rfl) (by decide) ?_
        have hFc := va_self hD hS hA
        refine va_calli (va_runV (As := [.int (38)]) (rest := []) ⟨hx, hb, hml, hown, hT⟩ (c_x9_takesE l G ad SL12 H_9.size (z) (q) (38) (τ) (by first | assumption | omega) (by first | assumption | omega) (by first | assumption | omega) (hXl12)) (tV 1 hT m2_213 m2_215 mp_0 m1_12 m2_216 rfl rfl (by decide +kernel) ⟨Nat.le_of_ble_eq_true rfl, Nat.le_of_ble_eq_true rfl⟩) ⟨PcW_blind, va_recv hK hP (ci := 11) (q0 := 57) rfl (ix_at (lt71 (by omega)) (cX_text G ad SL12)), PcW_of hP hK hD _⟩ rfl rfl hl.1 rfl (lv_room (Nat.le_of_ble_eq_true rfl)) (fk_get fk_cX9_readAll_0 13 rfl) ⟨Nat.zero_le _, Nat.zero_le _⟩) hS (fun q _ h => hFc q h) hFc (fun r_12 S_14 t_ H locs ht_ hvm_ hw_13 hB_ hz_ hk_ hS => ?_)
        obtain ⟨hP, -, hD1_⟩ := hB_
        rw [ht_] at hP
        have hD : va_D A (wX G ad S_14) := hD1_.weaken (fun k q _ h => hFc q.1 h)
        try dsimp only at hw_13
        obtain ⟨hX_15, hF_16_, hw_13⟩ := hw_13
        have hF_16 : Fr (fun j k => (j = 57 ∧ (k = 2 ∨ k = 7 ∨ k = 8)) ∨ ((j = 59 ∨ j = 60) ∧ k = 99)) S S_14 := Fr.trans hFl12 (Fr.mono hF_16_ (fun j k h => by omega))
        have hK21 := hw_13
        have hf21 := hF_16_
        have hT21 := hTl.fr hF_16_ (fun q => by omega) (fun q => by omega)
        have hc21 := (Fr.F hF_16_ (j := 57) (k := 7) (lt71 (by omega)) (fun q => by omega)).trans hCl.1
        refine lv_if_eq (tgt := 53) hx hb (fk_get fk_cX9_readAll_0 14 rfl) (by decide) (fun c_17 => ?_) (fun c_17 => ?_)
        · obtain ⟨n21, hp21⟩ := tk_n hK21 c_17
          refine lv_iconst (v := 1) hx hb (fk_get fk_cX9_readAll_0 28 rfl) (by decide) ?_
          subst hQ
          have hpost : XI S_14 ∧ Fr (fun j k => (j = 57 ∧ (k = 2 ∨ k = 7 ∨ k = 8)) ∨ ((j = 59 ∨ j = 60) ∧ k = 99)) S S_14 ∧ RdP (allP cdA (oneP cdA τ 0) τ pz) c (1 : Int32) S S_14 := by
            exact ⟨hX_15, hF_16, by first | exact rd_0 (thn_n e2) hp2 | exact rd_1 (hQ2.symm.trans (seq_no n21 _)) hp21 (hCl.keep hf21 (fun q => by omega) (fun q => by omega) (fun q => by omega)) | exact rd_1 (hQ2.symm.trans (by rw [show 100 - k = 0 by omega]; rfl)) hql hCl | exact rd_0 (hQ2.symm.trans ((seq_s (by omega) h21).trans (thn_n e29))) hp29⟩
          exact W.zret (v := 1) hx hb hr rfl (fun t_ ht_ hW_ => ⟨⟨1, S_14, rfl, hpost, by rw [ht_]; exact hP, va_K.moved hW_.alike hK, hD⟩, hS.F ht_⟩) hS.2.2 (fk_get fk_cX9_readAll_0 29 rfl)
        obtain ⟨h21, hp21⟩ := tk_y hK21 c_17
        have hz21 := hTx.lt h21 (by decide)
        refine lv_aload_n hx hb (fk_get fk_cX9_readAll_0 15 rfl) rfl (lv_at hl 1 rfl) ?_
        refine lv_iload_n hx hb (fk_get fk_cX9_readAll_0 16 rfl) rfl (lv_at hl 2 rfl) ?_
        have hFc := va_self hD hS hA
        refine va_calli (va_runV (As := [.int (4)]) (rest := []) ⟨hx, hb, hml, hown, hT⟩ (c_x9_one4E l G ad S_14 H.size (z) (q + 1) (c + L.length) (τ) (by first | assumption | omega) (by first | assumption | omega) (by first | assumption | omega) (by first | assumption | omega) (by first | assumption | omega) (hX_15)) (tV 1 hT m3_64 m3_66 mp_8 m1_12 m3_67 rfl rfl (by decide +kernel) ⟨Nat.le_of_ble_eq_true rfl, Nat.le_of_ble_eq_true rfl⟩) ⟨PcE_blind, va_recv hK hP (ci := 11) (q0 := 57) rfl (ix_at (lt71 (by omega)) (cX_text G ad S_14)), PcE_of hP hK hD hE hS (fun q h => hFc q h) _⟩ rfl rfl hl.1 rfl (lv_room (Nat.le_of_ble_eq_true rfl)) (fk_get fk_cX9_readAll_0 17 rfl) ⟨Nat.zero_le _, Nat.zero_le _⟩) hS (fun q _ h => hFc q h) hFc (fun r_18 S_20 t_ H locs ht_ hvm_ hw_19 hB_ hz_ hk_ hS => ?_)
        obtain ⟨hP, -, hD1_⟩ := hB_
        rw [ht_] at hP
        have hD : va_D A (wX G ad S_20) := hD1_.weaken (fun k q _ h => hFc q.1 h)
        try dsimp only at hw_19
        obtain ⟨hX_21, hF_22_, hw_19⟩ := hw_19
        have hF_22 : Fr (fun j k => (j = 57 ∧ (k = 2 ∨ k = 7 ∨ k = 8)) ∨ ((j = 59 ∨ j = 60) ∧ k = 99)) S S_20 := Fr.trans hF_16 (Fr.mono hF_22_ (fun j k h => by omega))
        have hK29 := hw_19
        have hT29 := hT21.fr hF_22_ (fun q => by omega) (fun q => by omega)
        refine lv_if_eq (tgt := 45) hx hb (fk_get fk_cX9_readAll_0 18 rfl) (by decide) (fun c_23 => ?_) (fun c_23 => ?_)
        · obtain ⟨e29, hp29⟩ := rd_n hK29 c_23
          refine lv_iconst (v := 0) hx hb (fk_get fk_cX9_readAll_0 24 rfl) (by decide) ?_
          subst hQ
          have hpost : XI S_20 ∧ Fr (fun j k => (j = 57 ∧ (k = 2 ∨ k = 7 ∨ k = 8)) ∨ ((j = 59 ∨ j = 60) ∧ k = 99)) S S_20 ∧ RdP (allP cdA (oneP cdA τ 0) τ pz) c (0 : Int32) S S_20 := by
            exact ⟨hX_21, hF_22, by first | exact rd_0 (thn_n e2) hp2 | exact rd_1 (hQ2.symm.trans (seq_no n21 _)) hp21 (hCl.keep hf21 (fun q => by omega) (fun q => by omega) (fun q => by omega)) | exact rd_1 (hQ2.symm.trans (by rw [show 100 - k = 0 by omega]; rfl)) hql hCl | exact rd_0 (hQ2.symm.trans ((seq_s (by omega) h21).trans (thn_n e29))) hp29⟩
          exact W.zret (v := 0) hx hb hr rfl (fun t_ ht_ hW_ => ⟨⟨0, S_20, rfl, hpost, by rw [ht_]; exact hP, va_K.moved hW_.alike hK, hD⟩, hS.F ht_⟩) hS.2.2 (fk_get fk_cX9_readAll_0 25 rfl)
        obtain ⟨M, e29, hp29, hC29⟩ := rd_y hK29 c_23
        obtain ⟨g5, g6, g7⟩ := hTx.one 0 (q + 1) (by omega)
        have g8 := g7 M e29
        have hc29 := hC29.1
        refine lv_aload_n hx hb (fk_get fk_cX9_readAll_0 19 rfl) rfl (lv_at hl 1 rfl) ?_
        refine lv_bipush (v := 19) hx hb (fk_get fk_cX9_readAll_0 20 rfl) (by decide) ?_
        refine lv_iconst (v := 0) hx hb (fk_get fk_cX9_readAll_0 21 rfl) (by decide) ?_
        have hFc := va_self hD hS hA
        refine va_calli (va_runV (As := [.int (19), .int (0)]) (rest := []) ⟨hx, hb, hml, hown, hT⟩ (c_x9_putE l G ad S_20 H.size (c + L.length + M.length) (19) (0) (by first | assumption | omega) (by first | assumption | omega) (hX_21)) (tV 2 hT m3_68 m3_70 mp_9 m1_12 m3_71 rfl rfl (by decide +kernel) ⟨Nat.le_of_ble_eq_true rfl, Nat.le_of_ble_eq_true rfl⟩) ⟨PcW_blind, va_recv hK hP (ci := 11) (q0 := 57) rfl (ix_at (lt71 (by omega)) (cX_text G ad S_20)), PcW_of hP hK hD _⟩ rfl rfl hl.1 rfl (lv_room (Nat.le_of_ble_eq_true rfl)) (fk_get fk_cX9_readAll_0 22 rfl) ⟨Nat.zero_le _, Nat.zero_le _⟩) hS (fun q _ h => hFc q h) hFc (fun r_24 S_26 t_ H locs ht_ hvm_ hw_25 hB_ hz_ hk_ hS => ?_)
        obtain ⟨hP, -, hD1_⟩ := hB_
        rw [ht_] at hP
        have hD : va_D A (wX G ad S_26) := hD1_.weaken (fun k q _ h => hFc q.1 h)
        try dsimp only at hw_25
        obtain ⟨hX_27, hF_28_, hw_25⟩ := hw_25
        have hF_28 : Fr (fun j k => (j = 57 ∧ (k = 2 ∨ k = 7 ∨ k = 8)) ∨ ((j = 59 ∨ j = 60) ∧ k = 99)) S S_26 := Fr.trans hF_22 (Fr.mono hF_28_ (fun j k h => by omega))
        obtain ⟨e_, hP39⟩ := hw_25
        subst e_
        have hp39 := (Fr.F hF_28_ (j := 57) (k := 2) (lt71 (by omega)) (fun q => by omega)).trans hp29
        have hT39 := hT29.fr hF_28_ (fun q => by omega) (fun q => by omega)
        refine lv_if_ne (tgt := 47) hx hb (fk_get fk_cX9_readAll_0 23 rfl) (by decide) (fun _ => ?_) (fun c_29 => absurd c_29 ((by decide)))
        refine lv_iinc (v := (nI (k + 1))) (lv' := [(2, .int ((nI (k + 1)))), (0, .ref (ad 57)), (1, .int (4))]) hx hb (fk_get fk_cX9_readAll_0 26 rfl) hl (k := 0) rfl ((nI_1 k)) (by decide) rfl (fun ls hl => ?_)
        refine lv_goto (tgt := 12) hx hb (fk_get fk_cX9_readAll_0 27 rfl) (by decide) ?_
        exact ih (k + 1) (((oneP cdA τ 0) (q + 1)).2) ((cdA.2.2.1 L M)) (S_26) _ _ ls (hX_27) (hF_28) (by omega) (by omega) (hT39) (hp39) (g6) ((by rw [show (cdA.2.2.1 L M).length = L.length + M.length + 1 from op_len L M _]; omega)) (((hCl.keep hf21 (fun q => by omega) (fun q => by omega) (fun q => by omega)).app hC29).put (by rw [List.length_append, ← Nat.add_assoc]; exact hP39)) (((thn_s e29).symm.trans ((seq_s (by omega) h21).symm.trans hQ2))) hP hD hS (lv_sub hl [0, 1, 2] rfl)
    exact lp_7 (101) (0) (((oneP cdA τ 0) pz).2) (L2) (S_3) _ _ ls (hX_4) (hF_5) (by omega) (by omega) (hT2) (hp2) (g2) (g4) (hC2) ((thn_s e2).symm) hP hD hS (lv_sub hl [0, 1, 2] rfl)
  obtain ⟨e2, hp2⟩ := rd_n hK2 (by assumption)
  refine lv_iconst (v := 0) hx hb (fk_get fk_cX9_readAll_0 4 rfl) (by decide) ?_
  subst hQ
  have hpost : XI S_3 ∧ Fr (fun j k => (j = 57 ∧ (k = 2 ∨ k = 7 ∨ k = 8)) ∨ ((j = 59 ∨ j = 60) ∧ k = 99)) S S_3 ∧ RdP (allP cdA (oneP cdA τ 0) τ pz) c (0 : Int32) S S_3 := by
    exact ⟨hX_4, hF_5, by first | exact rd_0 (thn_n e2) hp2 | exact rd_1 (hQ2.symm.trans (seq_no n21 _)) hp21 (hCl.keep hf21 (fun q => by omega) (fun q => by omega) (fun q => by omega)) | exact rd_1 (hQ2.symm.trans (by rw [show 100 - k = 0 by omega]; rfl)) hql hCl | exact rd_0 (hQ2.symm.trans ((seq_s (by omega) h21).trans (thn_n e29))) hp29⟩
  exact W.zret (v := 0) hx hb hr rfl (fun t_ ht_ hW_ => ⟨⟨0, S_3, rfl, hpost, by rw [ht_]; exact hP, va_K.moved hW_.alike hK, hD⟩, hS.F ht_⟩) hS.2.2 (fk_get fk_cX9_readAll_0 5 rfl)
set_option maxHeartbeats 800000 in
set_option maxRecDepth 100000 in
theorem c_x9_any4E (l : Launch) (G : GG) (ad : Nat → Nat) (S : FS) (sz : Nat) (z pz c : Nat) (τ : Nat → Int32) (hTx : TXz S z τ) (hp : fF S 57 2 = nI pz) (hpz : pz ≤ z) (hc : fF S 57 7 = nI c) (hcp : c ≤ pz) (hX : XI S) : Met l yX9_readAny (Cond.code yX9_readAny cX9_readAny 3 (some .boolean) :: TBL) ({ frames := 9, cells := 0, slots := 0, locals := 251 } : Room) (PcE G (wX G ad S) sz [.ref (ad 57), .int (4)]) (va_Qi (fun (r : Int32) (S' : FS) => XI S' ∧ Fr (fun j k => (j = 57 ∧ (k = 2 ∨ k = 7 ∨ k = 8)) ∨ ((j = 59 ∨ j = 60) ∧ k = 99)) S S' ∧ RdP (anyP cdA (oneP cdA τ 0) τ pz) c r S S') (fun S' t => BW G (va_A (wX G ad S) sz) (wX G ad S') t) (va_A (wX G ad S) sz)) 0 0 (va_A (wX G ad S) sz) := by
  refine Met.ofW (cc := cX9_readAny) (maxL := 3) (ret := (some .boolean)) (by decide) rfl ?_
  intro p e s m args below meth c₀ s₁ B hml hv
  obtain ⟨rfl, hsz, hP, hK, hD0, hE⟩ := hv
  have hx := B.exec
  have hb := B.bytes
  have hr := B.returns
  have hT : ∀ w ∈ TBL, w.before ([.ref (ad 57), .int (4)] : List Value).toArray s = true := fun w h => atoms_spec (ws := Cond.code yX9_readAny cX9_readAny 3 (some .boolean) :: TBL) B.pre w (List.mem_cons_of_mem _ h)
  have hown : s.vm.findClass "LittleMore$Text" = some m.cls := findClass_of_methodNamed B.named
  have hlocks := B.notSynchronized
  subst hsz
  have hD := hD0.self (sz := s.heap.size)
  generalize hAe : va_A (wX G ad S) s.heap.size = A at hD hE ⊢
  have hA : ∀ q : Nat, s.heap.size ≤ q → A q := fun q h => by rw [← hAe]; exact Or.inr h
  have hS : va_S A s.heap s.heap [] := va_S.rf
  have hP : va_P G.1 vwCl (wX G ad S) s.heap := hP
  have hl := lv_entry ([.ref (ad 57), .int (4)]) (n := 3) (Nat.le_of_ble_eq_true rfl)
  rw [lg_entry_eq]
  generalize (lg_sl ([.ref (ad 57), .int (4)]) ++ List.replicate (3 - (lg_sl ([.ref (ad 57), .int (4)])).length) Slot.unset).toArray = ls at hl ⊢
  have hl : lv_has ls 3 [(0, .ref (ad 57)), (1, .int (4))] := hl
  refine W_abs (fun Q hQ => ?_)
  generalize ([.ref (ad 57), .int (4)] : List Value).toArray = args at hT hQ ⊢
  have hz1 := hTx.2.1
  refine lv_aload_n hx hb (fk_get fk_cX9_readAny_0 0 rfl) rfl (lv_at hl 0 rfl) ?_
  refine lv_iload_n hx hb (fk_get fk_cX9_readAny_0 1 rfl) rfl (lv_at hl 1 rfl) ?_
  have hFc := va_self hD hS hA
  refine va_calli (va_runV (As := [.int (4)]) (rest := []) ⟨hx, hb, hml, hown, hT⟩ (c_x9_all4E l G ad S s.heap.size (z) (pz) (c) (τ) (by first | assumption | omega) (by first | assumption | omega) (by first | assumption | omega) (by first | assumption | omega) (by first | assumption | omega) (hX)) (tV 1 hT m3_60 m3_62 mp_7 m1_12 m3_63 rfl rfl (by decide +kernel) ⟨Nat.le_of_ble_eq_true rfl, Nat.le_of_ble_eq_true rfl⟩) ⟨PcE_blind, va_recv hK hP (ci := 11) (q0 := 57) rfl (ix_at (lt71 (by omega)) (cX_text G ad S)), PcE_of hP hK hD hE hS (fun q h => hFc q h) _⟩ rfl rfl hl.1 rfl (lv_room (Nat.le_of_ble_eq_true rfl)) (fk_get fk_cX9_readAny_0 2 rfl) ⟨Nat.zero_le _, Nat.zero_le _⟩) hS (fun q _ h => hFc q h) hFc (fun r_1 S_3 t_ H locs ht_ hvm_ hw_2 hB_ hz_ hk_ hS => ?_)
  obtain ⟨hP, -, hD1_⟩ := hB_
  rw [ht_] at hP
  have hD : va_D A (wX G ad S_3) := hD1_.weaken (fun k q _ h => hFc q.1 h)
  try dsimp only at hw_2
  obtain ⟨hX_4, hF_5_, hw_2⟩ := hw_2
  have hF_5 : Fr (fun j k => (j = 57 ∧ (k = 2 ∨ k = 7 ∨ k = 8)) ∨ ((j = 59 ∨ j = 60) ∧ k = 99)) S S_3 := Fr.trans (Fr.rf : Fr (fun j k => (j = 57 ∧ (k = 2 ∨ k = 7 ∨ k = 8)) ∨ ((j = 59 ∨ j = 60) ∧ k = 99)) S S) (Fr.mono hF_5_ (fun j k h => by omega))
  have hK2 := hw_2
  have hf2 := hF_5_
  have hT2 := hTx.fr hF_5_ (fun q => by omega) (fun q => by omega)
  refine lv_if_ne (tgt := 10) hx hb (fk_get fk_cX9_readAny_0 3 rfl) (by decide) (fun c_6 => ?_) (fun c_6 => ?_)
  · obtain ⟨L2, e2, hp2, hC2⟩ := rd_y hK2 c_6
    obtain ⟨g1, g2, g3⟩ := hTx.all 0 pz hpz
    have g4 := g3 L2 e2
    refine lv_iconst (v := 0) hx hb (fk_get fk_cX9_readAny_0 6 rfl) (by decide) ?_
    refine lv_istore_n (lv' := [(2, .int (0)), (0, .ref (ad 57)), (1, .int (4))]) hx hb (fk_get fk_cX9_readAny_0 7 rfl) rfl hl (by decide) rfl (fun ls hl => ?_)
    have lp_7 : ∀ (fu : Nat) (k q : Nat) (L : Cds) (SL12 : FS) (H_9 : Heap) (locs_10 : List Loc) (ls : Array Slot),  (XI SL12) → (Fr (fun j k => (j = 57 ∧ (k = 2 ∨ k = 7 ∨ k = 8)) ∨ ((j = 59 ∨ j = 60) ∧ k = 99)) S SL12) → (k ≤ 100) → (100 < k + fu) → (TXz SL12 z τ) → (fF SL12 57 2 = nI q) → (q ≤ z) → (pz + L.length + 1 ≤ q) → (CdP S SL12 c L) → (seqP (allP cdA (oneP cdA τ 0) τ) cdA.2.2.2 124 τ (100 - k) L q = anyP cdA (oneP cdA τ 0) τ pz) → va_P G.1 vwCl (wX G ad SL12) H_9 → va_D A (wX G ad SL12) → va_S A s.heap H_9 locs_10 → lv_has ls 3 [(2, .int ((nI k))), (0, .ref (ad 57)), (1, .int (4))] → W p l e ({ frames := 9, cells := 0, slots := 0, locals := 251 } : Room) s m args below meth c₀ H_9 locs_10 0 0 Q (F0 m 12 ls []) := by
      intro fu
      induction fu with
      | zero =>
        intro k q L SL12 H_9 locs_10 ls hXl12 hFl12 hk hf hTl hql hqz hLq hCl hQ2 hP hD hS hl
        exact absurd hf (by omega)
      | succ fu ih =>
        intro k q L SL12 H_9 locs_10 ls hXl12 hFl12 hk hf hTl hql hqz hLq hCl hQ2 hP hD hS hl
        refine lv_iload_n hx hb (fk_get fk_cX9_readAny_0 8 rfl) rfl (lv_at hl 0 rfl) ?_
        refine lv_bipush (v := 100) hx hb (fk_get fk_cX9_readAny_0 9 rfl) (by decide) ?_
        refine lv_icmp_ge (tgt := 53) hx hb (fk_get fk_cX9_readAny_0 10 rfl) (by decide) (fun c_11 => ?_) (fun c_11 => ?_)
        · have q_c_11 : 100 ≤ k := ci_le (a := 100) (b := k) (by omega) (by omega) c_11
          refine lv_iconst (v := 1) hx hb (fk_get fk_cX9_readAny_0 28 rfl) (by decide) ?_
          subst hQ
          have hpost : XI SL12 ∧ Fr (fun j k => (j = 57 ∧ (k = 2 ∨ k = 7 ∨ k = 8)) ∨ ((j = 59 ∨ j = 60) ∧ k = 99)) S SL12 ∧ RdP (anyP cdA (oneP cdA τ 0) τ pz) c (1 : Int32) S SL12 := by
            exact ⟨hXl12, hFl12, by first | exact rd_0 (thn_n e2) hp2 | exact rd_1 (hQ2.symm.trans (seq_no n21 _)) hp21 (hCl.keep hf21 (fun q => by omega) (fun q => by omega) (fun q => by omega)) | exact rd_1 (hQ2.symm.trans (by rw [show 100 - k = 0 by omega]; rfl)) hql hCl | exact rd_0 (hQ2.symm.trans ((seq_s (by omega) h21).trans (thn_n e29))) hp29⟩
          exact W.zret (v := 1) hx hb hr rfl (fun t_ ht_ hW_ => ⟨⟨1, SL12, rfl, hpost, by rw [ht_]; exact hP, va_K.moved hW_.alike hK, hD⟩, hS.F ht_⟩) hS.2.2 (fk_get fk_cX9_readAny_0 29 rfl)
        have q_c_11 : k < 100 := ci_nle (a := 100) (b := k) (by omega) (by omega) c_11
        refine lv_aload_n hx hb (fk_get fk_cX9_readAny_0 11 rfl) rfl (lv_at hl 1 rfl) ?_
        refine lv_bipush (v := 124) hx hb (fk_get fk_cX9_readAny_0 12 rfl) (by decide) ?_
        have hFc := va_self hD hS hA
        refine va_calli (va_runV (As := [.int (124)]) (rest := []) ⟨hx, hb, hml, hown, hT⟩ (c_x9_takesE l G ad SL12 H_9.size (z) (q) (124) (τ) (by first | assumption | omega) (by first | assumption | omega) (by first | assumption | omega) (hXl12)) (tV 1 hT m2_213 m2_215 mp_0 m1_12 m2_216 rfl rfl (by decide +kernel) ⟨Nat.le_of_ble_eq_true rfl, Nat.le_of_ble_eq_true rfl⟩) ⟨PcW_blind, va_recv hK hP (ci := 11) (q0 := 57) rfl (ix_at (lt71 (by omega)) (cX_text G ad SL12)), PcW_of hP hK hD _⟩ rfl rfl hl.1 rfl (lv_room (Nat.le_of_ble_eq_true rfl)) (fk_get fk_cX9_readAny_0 13 rfl) ⟨Nat.zero_le _, Nat.zero_le _⟩) hS (fun q _ h => hFc q h) hFc (fun r_12 S_14 t_ H locs ht_ hvm_ hw_13 hB_ hz_ hk_ hS => ?_)
        obtain ⟨hP, -, hD1_⟩ := hB_
        rw [ht_] at hP
        have hD : va_D A (wX G ad S_14) := hD1_.weaken (fun k q _ h => hFc q.1 h)
        try dsimp only at hw_13
        obtain ⟨hX_15, hF_16_, hw_13⟩ := hw_13
        have hF_16 : Fr (fun j k => (j = 57 ∧ (k = 2 ∨ k = 7 ∨ k = 8)) ∨ ((j = 59 ∨ j = 60) ∧ k = 99)) S S_14 := Fr.trans hFl12 (Fr.mono hF_16_ (fun j k h => by omega))
        have hK21 := hw_13
        have hf21 := hF_16_
        have hT21 := hTl.fr hF_16_ (fun q => by omega) (fun q => by omega)
        have hc21 := (Fr.F hF_16_ (j := 57) (k := 7) (lt71 (by omega)) (fun q => by omega)).trans hCl.1
        refine lv_if_eq (tgt := 53) hx hb (fk_get fk_cX9_readAny_0 14 rfl) (by decide) (fun c_17 => ?_) (fun c_17 => ?_)
        · obtain ⟨n21, hp21⟩ := tk_n hK21 c_17
          refine lv_iconst (v := 1) hx hb (fk_get fk_cX9_readAny_0 28 rfl) (by decide) ?_
          subst hQ
          have hpost : XI S_14 ∧ Fr (fun j k => (j = 57 ∧ (k = 2 ∨ k = 7 ∨ k = 8)) ∨ ((j = 59 ∨ j = 60) ∧ k = 99)) S S_14 ∧ RdP (anyP cdA (oneP cdA τ 0) τ pz) c (1 : Int32) S S_14 := by
            exact ⟨hX_15, hF_16, by first | exact rd_0 (thn_n e2) hp2 | exact rd_1 (hQ2.symm.trans (seq_no n21 _)) hp21 (hCl.keep hf21 (fun q => by omega) (fun q => by omega) (fun q => by omega)) | exact rd_1 (hQ2.symm.trans (by rw [show 100 - k = 0 by omega]; rfl)) hql hCl | exact rd_0 (hQ2.symm.trans ((seq_s (by omega) h21).trans (thn_n e29))) hp29⟩
          exact W.zret (v := 1) hx hb hr rfl (fun t_ ht_ hW_ => ⟨⟨1, S_14, rfl, hpost, by rw [ht_]; exact hP, va_K.moved hW_.alike hK, hD⟩, hS.F ht_⟩) hS.2.2 (fk_get fk_cX9_readAny_0 29 rfl)
        obtain ⟨h21, hp21⟩ := tk_y hK21 c_17
        have hz21 := hTx.lt h21 (by decide)
        refine lv_aload_n hx hb (fk_get fk_cX9_readAny_0 15 rfl) rfl (lv_at hl 1 rfl) ?_
        refine lv_iload_n hx hb (fk_get fk_cX9_readAny_0 16 rfl) rfl (lv_at hl 2 rfl) ?_
        have hFc := va_self hD hS hA
        refine va_calli (va_runV (As := [.int (4)]) (rest := []) ⟨hx, hb, hml, hown, hT⟩ (c_x9_all4E l G ad S_14 H.size (z) (q + 1) (c + L.length) (τ) (by first | assumption | omega) (by first | assumption | omega) (by first | assumption | omega) (by first | assumption | omega) (by first | assumption | omega) (hX_15)) (tV 1 hT m3_60 m3_62 mp_7 m1_12 m3_63 rfl rfl (by decide +kernel) ⟨Nat.le_of_ble_eq_true rfl, Nat.le_of_ble_eq_true rfl⟩) ⟨PcE_blind, va_recv hK hP (ci := 11) (q0 := 57) rfl (ix_at (lt71 (by omega)) (cX_text G ad S_14)), PcE_of hP hK hD hE hS (fun q h => hFc q h) _⟩ rfl rfl hl.1 rfl (lv_room (Nat.le_of_ble_eq_true rfl)) (fk_get fk_cX9_readAny_0 17 rfl) ⟨Nat.zero_le _, Nat.zero_le _⟩) hS (fun q _ h => hFc q h) hFc (fun r_18 S_20 t_ H locs ht_ hvm_ hw_19 hB_ hz_ hk_ hS => ?_)
        obtain ⟨hP, -, hD1_⟩ := hB_
        rw [ht_] at hP
        have hD : va_D A (wX G ad S_20) := hD1_.weaken (fun k q _ h => hFc q.1 h)
        try dsimp only at hw_19
        obtain ⟨hX_21, hF_22_, hw_19⟩ := hw_19
        have hF_22 : Fr (fun j k => (j = 57 ∧ (k = 2 ∨ k = 7 ∨ k = 8)) ∨ ((j = 59 ∨ j = 60) ∧ k = 99)) S S_20 := Fr.trans hF_16 (Fr.mono hF_22_ (fun j k h => by omega))
        have hK29 := hw_19
        have hT29 := hT21.fr hF_22_ (fun q => by omega) (fun q => by omega)
        refine lv_if_eq (tgt := 45) hx hb (fk_get fk_cX9_readAny_0 18 rfl) (by decide) (fun c_23 => ?_) (fun c_23 => ?_)
        · obtain ⟨e29, hp29⟩ := rd_n hK29 c_23
          refine lv_iconst (v := 0) hx hb (fk_get fk_cX9_readAny_0 24 rfl) (by decide) ?_
          subst hQ
          have hpost : XI S_20 ∧ Fr (fun j k => (j = 57 ∧ (k = 2 ∨ k = 7 ∨ k = 8)) ∨ ((j = 59 ∨ j = 60) ∧ k = 99)) S S_20 ∧ RdP (anyP cdA (oneP cdA τ 0) τ pz) c (0 : Int32) S S_20 := by
            exact ⟨hX_21, hF_22, by first | exact rd_0 (thn_n e2) hp2 | exact rd_1 (hQ2.symm.trans (seq_no n21 _)) hp21 (hCl.keep hf21 (fun q => by omega) (fun q => by omega) (fun q => by omega)) | exact rd_1 (hQ2.symm.trans (by rw [show 100 - k = 0 by omega]; rfl)) hql hCl | exact rd_0 (hQ2.symm.trans ((seq_s (by omega) h21).trans (thn_n e29))) hp29⟩
          exact W.zret (v := 0) hx hb hr rfl (fun t_ ht_ hW_ => ⟨⟨0, S_20, rfl, hpost, by rw [ht_]; exact hP, va_K.moved hW_.alike hK, hD⟩, hS.F ht_⟩) hS.2.2 (fk_get fk_cX9_readAny_0 25 rfl)
        obtain ⟨M, e29, hp29, hC29⟩ := rd_y hK29 c_23
        obtain ⟨g5, g6, g7⟩ := hTx.all 0 (q + 1) (by omega)
        have g8 := g7 M e29
        have hc29 := hC29.1
        refine lv_aload_n hx hb (fk_get fk_cX9_readAny_0 19 rfl) rfl (lv_at hl 1 rfl) ?_
        refine lv_bipush (v := 20) hx hb (fk_get fk_cX9_readAny_0 20 rfl) (by decide) ?_
        refine lv_iconst (v := 0) hx hb (fk_get fk_cX9_readAny_0 21 rfl) (by decide) ?_
        have hFc := va_self hD hS hA
        refine va_calli (va_runV (As := [.int (20), .int (0)]) (rest := []) ⟨hx, hb, hml, hown, hT⟩ (c_x9_putE l G ad S_20 H.size (c + L.length + M.length) (20) (0) (by first | assumption | omega) (by first | assumption | omega) (hX_21)) (tV 2 hT m3_68 m3_70 mp_9 m1_12 m3_71 rfl rfl (by decide +kernel) ⟨Nat.le_of_ble_eq_true rfl, Nat.le_of_ble_eq_true rfl⟩) ⟨PcW_blind, va_recv hK hP (ci := 11) (q0 := 57) rfl (ix_at (lt71 (by omega)) (cX_text G ad S_20)), PcW_of hP hK hD _⟩ rfl rfl hl.1 rfl (lv_room (Nat.le_of_ble_eq_true rfl)) (fk_get fk_cX9_readAny_0 22 rfl) ⟨Nat.zero_le _, Nat.zero_le _⟩) hS (fun q _ h => hFc q h) hFc (fun r_24 S_26 t_ H locs ht_ hvm_ hw_25 hB_ hz_ hk_ hS => ?_)
        obtain ⟨hP, -, hD1_⟩ := hB_
        rw [ht_] at hP
        have hD : va_D A (wX G ad S_26) := hD1_.weaken (fun k q _ h => hFc q.1 h)
        try dsimp only at hw_25
        obtain ⟨hX_27, hF_28_, hw_25⟩ := hw_25
        have hF_28 : Fr (fun j k => (j = 57 ∧ (k = 2 ∨ k = 7 ∨ k = 8)) ∨ ((j = 59 ∨ j = 60) ∧ k = 99)) S S_26 := Fr.trans hF_22 (Fr.mono hF_28_ (fun j k h => by omega))
        obtain ⟨e_, hP39⟩ := hw_25
        subst e_
        have hp39 := (Fr.F hF_28_ (j := 57) (k := 2) (lt71 (by omega)) (fun q => by omega)).trans hp29
        have hT39 := hT29.fr hF_28_ (fun q => by omega) (fun q => by omega)
        refine lv_if_ne (tgt := 47) hx hb (fk_get fk_cX9_readAny_0 23 rfl) (by decide) (fun _ => ?_) (fun c_29 => absurd c_29 ((by decide)))
        refine lv_iinc (v := (nI (k + 1))) (lv' := [(2, .int ((nI (k + 1)))), (0, .ref (ad 57)), (1, .int (4))]) hx hb (fk_get fk_cX9_readAny_0 26 rfl) hl (k := 0) rfl ((nI_1 k)) (by decide) rfl (fun ls hl => ?_)
        refine lv_goto (tgt := 12) hx hb (fk_get fk_cX9_readAny_0 27 rfl) (by decide) ?_
        exact ih (k + 1) (((allP cdA (oneP cdA τ 0) τ) (q + 1)).2) ((cdA.2.2.2 L M)) (S_26) _ _ ls (hX_27) (hF_28) (by omega) (by omega) (hT39) (hp39) (g6) ((by rw [show (cdA.2.2.2 L M).length = L.length + M.length + 1 from op_len L M _]; omega)) (((hCl.keep hf21 (fun q => by omega) (fun q => by omega) (fun q => by omega)).app hC29).put (by rw [List.length_append, ← Nat.add_assoc]; exact hP39)) (((thn_s e29).symm.trans ((seq_s (by omega) h21).symm.trans hQ2))) hP hD hS (lv_sub hl [0, 1, 2] rfl)
    exact lp_7 (101) (0) (((allP cdA (oneP cdA τ 0) τ) pz).2) (L2) (S_3) _ _ ls (hX_4) (hF_5) (by omega) (by omega) (hT2) (hp2) (g2) (g4) (hC2) ((thn_s e2).symm) hP hD hS (lv_sub hl [0, 1, 2] rfl)
  obtain ⟨e2, hp2⟩ := rd_n hK2 (by assumption)
  refine lv_iconst (v := 0) hx hb (fk_get fk_cX9_readAny_0 4 rfl) (by decide) ?_
  subst hQ
  have hpost : XI S_3 ∧ Fr (fun j k => (j = 57 ∧ (k = 2 ∨ k = 7 ∨ k = 8)) ∨ ((j = 59 ∨ j = 60) ∧ k = 99)) S S_3 ∧ RdP (anyP cdA (oneP cdA τ 0) τ pz) c (0 : Int32) S S_3 := by
    exact ⟨hX_4, hF_5, by first | exact rd_0 (thn_n e2) hp2 | exact rd_1 (hQ2.symm.trans (seq_no n21 _)) hp21 (hCl.keep hf21 (fun q => by omega) (fun q => by omega) (fun q => by omega)) | exact rd_1 (hQ2.symm.trans (by rw [show 100 - k = 0 by omega]; rfl)) hql hCl | exact rd_0 (hQ2.symm.trans ((seq_s (by omega) h21).trans (thn_n e29))) hp29⟩
  exact W.zret (v := 0) hx hb hr rfl (fun t_ ht_ hW_ => ⟨⟨0, S_3, rfl, hpost, by rw [ht_]; exact hP, va_K.moved hW_.alike hK, hD⟩, hS.F ht_⟩) hS.2.2 (fk_get fk_cX9_readAny_0 5 rfl)
set_option maxHeartbeats 800000 in
set_option maxRecDepth 100000 in
theorem c_x9_one3E (l : Launch) (G : GG) (ad : Nat → Nat) (S : FS) (sz : Nat) (z pz c : Nat) (τ : Nat → Int32) (hTx : TXz S z τ) (hp : fF S 57 2 = nI pz) (hpz : pz ≤ z) (hc : fF S 57 7 = nI c) (hcp : c ≤ pz) (hX : XI S) : Met l yX9_readOne (Cond.code yX9_readOne cX9_readOne 4 (some .boolean) :: TBL) ({ frames := 10, cells := 0, slots := 0, locals := 277 } : Room) (PcE G (wX G ad S) sz [.ref (ad 57), .int (3)]) (va_Qi (fun (r : Int32) (S' : FS) => XI S' ∧ Fr (fun j k => (j = 57 ∧ (k = 2 ∨ k = 7 ∨ k = 8)) ∨ ((j = 59 ∨ j = 60) ∧ k = 99)) S S' ∧ RdP (oneP cdA τ 1 pz) c r S S') (fun S' t => BW G (va_A (wX G ad S) sz) (wX G ad S') t) (va_A (wX G ad S) sz)) 0 0 (va_A (wX G ad S) sz) := by
  refine Met.ofW (cc := cX9_readOne) (maxL := 4) (ret := (some .boolean)) (by decide) rfl ?_
  intro p e s m args below meth c₀ s₁ B hml hv
  obtain ⟨rfl, hsz, hP, hK, hD0, hE⟩ := hv
  have hx := B.exec
  have hb := B.bytes
  have hr := B.returns
  have hT : ∀ w ∈ TBL, w.before ([.ref (ad 57), .int (3)] : List Value).toArray s = true := fun w h => atoms_spec (ws := Cond.code yX9_readOne cX9_readOne 4 (some .boolean) :: TBL) B.pre w (List.mem_cons_of_mem _ h)
  have hown : s.vm.findClass "LittleMore$Text" = some m.cls := findClass_of_methodNamed B.named
  have hlocks := B.notSynchronized
  subst hsz
  have hD := hD0.self (sz := s.heap.size)
  generalize hAe : va_A (wX G ad S) s.heap.size = A at hD hE ⊢
  have hA : ∀ q : Nat, s.heap.size ≤ q → A q := fun q h => by rw [← hAe]; exact Or.inr h
  have hS : va_S A s.heap s.heap [] := va_S.rf
  have hP : va_P G.1 vwCl (wX G ad S) s.heap := hP
  have hl := lv_entry ([.ref (ad 57), .int (3)]) (n := 4) (Nat.le_of_ble_eq_true rfl)
  rw [lg_entry_eq]
  generalize (lg_sl ([.ref (ad 57), .int (3)]) ++ List.replicate (4 - (lg_sl ([.ref (ad 57), .int (3)])).length) Slot.unset).toArray = ls at hl ⊢
  have hl : lv_has ls 4 [(0, .ref (ad 57)), (1, .int (3))] := hl
  refine W_abs (fun Q hQ => ?_)
  generalize ([.ref (ad 57), .int (3)] : List Value).toArray = args at hT hQ ⊢
  have hz1 := hTx.2.1
  refine lv_iload_n hx hb (fk_get fk_cX9_readOne_0 0 rfl) rfl (lv_at hl 1 rfl) ?_
  refine lv_iconst (v := 4) hx hb (fk_get fk_cX9_readOne_0 1 rfl) (by decide) ?_
  refine lv_icmp_ge (tgt := 40) hx hb (fk_get fk_cX9_readOne_0 2 rfl) (by decide) (fun c_1 => absurd c_1 ((by decide))) (fun _ => ?_)
  refine lv_aload_n hx hb (fk_get fk_cX9_readOne_0 3 rfl) rfl (lv_at hl 0 rfl) ?_
  refine lv_bipush (v := 33) hx hb (fk_get fk_cX9_readOne_0 4 rfl) (by decide) ?_
  have hFc := va_self hD hS hA
  refine va_calli (va_runV (As := [.int (33)]) (rest := []) ⟨hx, hb, hml, hown, hT⟩ (c_x9_takesE l G ad S s.heap.size (z) (pz) (33) (τ) (by first | assumption | omega) (by first | assumption | omega) (by first | assumption | omega) (hX)) (tV 1 hT m2_213 m2_215 mp_0 m1_12 m2_216 rfl rfl (by decide +kernel) ⟨Nat.le_of_ble_eq_true rfl, Nat.le_of_ble_eq_true rfl⟩) ⟨PcW_blind, va_recv hK hP (ci := 11) (q0 := 57) rfl (ix_at (lt71 (by omega)) (cX_text G ad S)), PcW_of hP hK hD _⟩ rfl rfl hl.1 rfl (lv_room (Nat.le_of_ble_eq_true rfl)) (fk_get fk_cX9_readOne_0 5 rfl) ⟨Nat.zero_le _, Nat.zero_le _⟩) hS (fun q _ h => hFc q h) hFc (fun r_2 S_4 t_ H locs ht_ hvm_ hw_3 hB_ hz_ hk_ hS => ?_)
  obtain ⟨hP, -, hD1_⟩ := hB_
  rw [ht_] at hP
  have hD : va_D A (wX G ad S_4) := hD1_.weaken (fun k q _ h => hFc q.1 h)
  try dsimp only at hw_3
  obtain ⟨hX_5, hF_6_, hw_3⟩ := hw_3
  have hF_6 : Fr (fun j k => (j = 57 ∧ (k = 2 ∨ k = 7 ∨ k = 8)) ∨ ((j = 59 ∨ j = 60) ∧ k = 99)) S S_4 := Fr.trans (Fr.rf : Fr (fun j k => (j = 57 ∧ (k = 2 ∨ k = 7 ∨ k = 8)) ∨ ((j = 59 ∨ j = 60) ∧ k = 99)) S S) (Fr.mono hF_6_ (fun j k h => by omega))
  have hK8 := hw_3
  have hf8 := hF_6_
  have hT8 := hTx.fr hF_6_ (fun q => by omega) (fun q => by omega)
  have hc8 := (Fr.F hF_6_ (j := 57) (k := 7) (lt71 (by omega)) (fun q => by omega)).trans hc
  refine lv_if_eq (tgt := 40) hx hb (fk_get fk_cX9_readOne_0 6 rfl) (by decide) (fun c_7 => ?_) (fun c_7 => ?_)
  · obtain ⟨n33, hp8⟩ := tk_n hK8 c_7
    refine lv_iload_n hx hb (fk_get fk_cX9_readOne_0 22 rfl) rfl (lv_at hl 1 rfl) ?_
    refine lv_iconst (v := 4) hx hb (fk_get fk_cX9_readOne_0 23 rfl) (by decide) ?_
    refine lv_icmp_ge (tgt := 79) hx hb (fk_get fk_cX9_readOne_0 24 rfl) (by decide) (fun c_8 => absurd c_8 ((by decide))) (fun _ => ?_)
    refine lv_aload_n hx hb (fk_get fk_cX9_readOne_0 25 rfl) rfl (lv_at hl 0 rfl) ?_
    refine lv_bipush (v := 40) hx hb (fk_get fk_cX9_readOne_0 26 rfl) (by decide) ?_
    have hFc := va_self hD hS hA
    refine va_calli (va_runV (As := [.int (40)]) (rest := []) ⟨hx, hb, hml, hown, hT⟩ (c_x9_takesE l G ad S_4 H.size (z) (pz) (40) (τ) (by first | assumption | omega) (by first | assumption | omega) (by first | assumption | omega) (hX_5)) (tV 1 hT m2_213 m2_215 mp_0 m1_12 m2_216 rfl rfl (by decide +kernel) ⟨Nat.le_of_ble_eq_true rfl, Nat.le_of_ble_eq_true rfl⟩) ⟨PcW_blind, va_recv hK hP (ci := 11) (q0 := 57) rfl (ix_at (lt71 (by omega)) (cX_text G ad S_4)), PcW_of hP hK hD _⟩ rfl rfl hl.1 rfl (lv_room (Nat.le_of_ble_eq_true rfl)) (fk_get fk_cX9_readOne_0 27 rfl) ⟨Nat.zero_le _, Nat.zero_le _⟩) hS (fun q _ h => hFc q h) hFc (fun r_9 S_11 t_ H locs ht_ hvm_ hw_10 hB_ hz_ hk_ hS => ?_)
    obtain ⟨hP, -, hD1_⟩ := hB_
    rw [ht_] at hP
    have hD : va_D A (wX G ad S_11) := hD1_.weaken (fun k q _ h => hFc q.1 h)
    try dsimp only at hw_10
    obtain ⟨hX_12, hF_13_, hw_10⟩ := hw_10
    have hF_13 : Fr (fun j k => (j = 57 ∧ (k = 2 ∨ k = 7 ∨ k = 8)) ∨ ((j = 59 ∨ j = 60) ∧ k = 99)) S S_11 := Fr.trans hF_6 (Fr.mono hF_13_ (fun j k h => by omega))
    have hK48 := hw_10
    have hf48 := hF_13_
    have hT48 := hT8.fr hF_13_ (fun q => by omega) (fun q => by omega)
    have hc48 := (Fr.F hF_13_ (j := 57) (k := 7) (lt71 (by omega)) (fun q => by omega)).trans hc8
    refine lv_if_eq (tgt := 79) hx hb (fk_get fk_cX9_readOne_0 28 rfl) (by decide) (fun c_14 => ?_) (fun c_14 => ?_)
    · obtain ⟨n40, hp48⟩ := tk_n hK48 c_14
      refine lv_aload_n hx hb (fk_get fk_cX9_readOne_1 11 rfl) rfl (lv_at hl 0 rfl) ?_
      refine va_ldcS (q := G.2.2.2 (310 + 4)) (tx := txS 4) hx hb hown (hE.2.2.2.2.1.2 4 (by omega)) (fk_get fk_cX9_readOne_1 12 rfl) ?_
      have hFc := va_self hD hS hA
      refine va_calli (va_runV (As := [.ref (G.2.2.2 (310 + 4))]) (rest := []) ⟨hx, hb, hml, hown, hT⟩ (c_x9_tooE l G ad S_11 H.size (4) (z) (pz) (τ) ((by omega : 4 < 6)) (by first | assumption | omega) (by first | assumption | omega) (by first | assumption | omega) (hX_12)) (tV 1 hT m3_73 m3_75 mp_10 m1_12 m3_76 rfl rfl (by decide +kernel) ⟨Nat.le_of_ble_eq_true rfl, Nat.le_of_ble_eq_true rfl⟩) ⟨PcE_blind, va_recv hK hP (ci := 11) (q0 := 57) rfl (ix_at (lt71 (by omega)) (cX_text G ad S_11)), PcE_of hP hK hD hE hS (fun q h => hFc q h) _⟩ rfl rfl hl.1 rfl (lv_room (Nat.le_of_ble_eq_true rfl)) (fk_get fk_cX9_readOne_1 13 rfl) ⟨Nat.zero_le _, Nat.zero_le _⟩) hS (fun q _ h => hFc q h) hFc (fun r_15 S_17 t_ H locs ht_ hvm_ hw_16 hB_ hz_ hk_ hS => ?_)
      obtain ⟨hP, -, hD1_⟩ := hB_
      rw [ht_] at hP
      have hD : va_D A (wX G ad S_17) := hD1_.weaken (fun k q _ h => hFc q.1 h)
      try dsimp only at hw_16
      obtain ⟨hX_18, hF_19_, hw_16⟩ := hw_16
      have hF_19 : Fr (fun j k => (j = 57 ∧ (k = 2 ∨ k = 7 ∨ k = 8)) ∨ ((j = 59 ∨ j = 60) ∧ k = 99)) S S_17 := Fr.trans hF_13 (Fr.mono hF_19_ (fun j k h => by omega))
      have hK82 := hw_16
      have hf82 := hF_19_
      have hT82 := hT48.fr hF_19_ (fun q => by omega) (fun q => by omega)
      have hc82 := (Fr.F hF_19_ (j := 57) (k := 7) (lt71 (by omega)) (fun q => by omega)).trans hc48
      have hl82 := hK82.1.1 rfl
      subst hl82
      refine lv_istore_n (lv' := [(2, .int ((lix (τ pz)))), (0, .ref (ad 57)), (1, .int (3))]) hx hb (fk_get fk_cX9_readOne_1 14 rfl) rfl hl (by decide) rfl (fun ls hl => ?_)
      refine lv_iload_n hx hb (fk_get fk_cX9_readOne_1 15 rfl) rfl (lv_at hl 0 rfl) ?_
      refine lv_if_ge (tgt := 94) hx hb (fk_get fk_cX9_readOne_1 16 rfl) (by decide) (fun c_20 => ?_) (fun c_20 => ?_)
      · have hn82 : ¬ lix (τ pz) < 0 := Int32.not_lt.mpr c_20
        have hz82 := hTx.lt rfl (lix_ne hn82)
        have hp82 := (hK82.2.resolve_left (fun q => hn82 q.1)).2
        refine lv_aload_n hx hb (fk_get fk_cX9_readOne_1 19 rfl) rfl (lv_at hl 1 rfl) ?_
        refine va_ldcS (q := G.2.2.2 (310 + 5)) (tx := txS 5) hx hb hown (hE.2.2.2.2.1.2 5 (by omega)) (fk_get fk_cX9_readOne_1 20 rfl) ?_
        have hFc := va_self hD hS hA
        refine va_calli (va_runV (As := [.ref (G.2.2.2 (310 + 5))]) (rest := []) ⟨hx, hb, hml, hown, hT⟩ (c_x9_tooE l G ad S_17 H.size (5) (z) (pz + 1) (τ) ((by omega : 5 < 6)) (by first | assumption | omega) (by first | assumption | omega) (by first | assumption | omega) (hX_18)) (tV 1 hT m3_73 m3_75 mp_10 m1_12 m3_76 rfl rfl (by decide +kernel) ⟨Nat.le_of_ble_eq_true rfl, Nat.le_of_ble_eq_true rfl⟩) ⟨PcE_blind, va_recv hK hP (ci := 11) (q0 := 57) rfl (ix_at (lt71 (by omega)) (cX_text G ad S_17)), PcE_of hP hK hD hE hS (fun q h => hFc q h) _⟩ rfl rfl hl.1 rfl (lv_room (Nat.le_of_ble_eq_true rfl)) (fk_get fk_cX9_readOne_1 21 rfl) ⟨Nat.zero_le _, Nat.zero_le _⟩) hS (fun q _ h => hFc q h) hFc (fun r_21 S_23 t_ H locs ht_ hvm_ hw_22 hB_ hz_ hk_ hS => ?_)
        obtain ⟨hP, -, hD1_⟩ := hB_
        rw [ht_] at hP
        have hD : va_D A (wX G ad S_23) := hD1_.weaken (fun k q _ h => hFc q.1 h)
        try dsimp only at hw_22
        obtain ⟨hX_24, hF_25_, hw_22⟩ := hw_22
        have hF_25 : Fr (fun j k => (j = 57 ∧ (k = 2 ∨ k = 7 ∨ k = 8)) ∨ ((j = 59 ∨ j = 60) ∧ k = 99)) S S_23 := Fr.trans hF_19 (Fr.mono hF_25_ (fun j k h => by omega))
        have hK97 := hw_22
        have hf97 := hF_25_
        have hT97 := hT82.fr hF_25_ (fun q => by omega) (fun q => by omega)
        have hc97 := (Fr.F hF_25_ (j := 57) (k := 7) (lt71 (by omega)) (fun q => by omega)).trans hc82
        have hl97 := hK97.1.2 rfl
        subst hl97
        refine lv_istore_n (lv' := [(3, .int ((cix (τ (pz + 1))))), (2, .int ((lix (τ pz)))), (0, .ref (ad 57)), (1, .int (3))]) hx hb (fk_get fk_cX9_readOne_1 22 rfl) rfl hl (by decide) rfl (fun ls hl => ?_)
        refine lv_iload_n hx hb (fk_get fk_cX9_readOne_1 23 rfl) rfl (lv_at hl 0 rfl) ?_
        refine lv_if_lt (tgt := 132) hx hb (fk_get fk_cX9_readOne_1 24 rfl) (by decide) (fun c_26 => ?_) (fun c_26 => ?_)
        · try have hn97 : cix (τ (pz + 1)) < 0 := by assumption
          try have hp97 := (hK97.2.resolve_right (fun q => q.1 hn97)).2
          refine lv_iconst (v := 0) hx hb (fk_get fk_cX9_readOne_2 8 rfl) (by decide) ?_
          subst hQ
          have hpost : XI S_23 ∧ Fr (fun j k => (j = 57 ∧ (k = 2 ∨ k = 7 ∨ k = 8)) ∨ ((j = 59 ∨ j = 60) ∧ k = 99)) S S_23 ∧ RdP (oneP cdA τ 1 pz) c (0 : Int32) S S_23 := by
            exact ⟨hX_24, hF_25, by first | exact rd_1 ((one_33 (d := 0) h33).trans (thn_s e18)) hp28 ((hC18.base hf8 (fun q => by omega) (fun q => by omega)).put hP28) | exact rd_0 ((one_33 (d := 0) h33).trans (thn_n e18)) hp18 | exact rd_1 ((one_40 (d := 0) n33 h40).trans ((thn_s e58).trans (if_pos h41))) hp67 (((hC58.base hf48 (fun q => by omega) (fun q => by omega)).base hf8 (fun q => by omega) (fun q => by omega)).keep hf67 (fun q => by omega) (fun q => by omega) (fun q => by omega)) | exact rd_0 ((one_40 (d := 0) n33 h40).trans ((thn_s e58).trans (if_neg n41))) hp67 | exact rd_0 ((one_40 (d := 0) n33 h40).trans (thn_n e58)) hp58 | exact rd_0 ((one_t (d := 0) n33 n40).trans (tst_0 hn82)) hp82 | exact rd_0 ((one_t (d := 0) n33 n40).trans (tst_1 hn82 hn97)) hp97 | exact rd_0 ((one_t (d := 0) n33 n40).trans ((tst_2 hn82 hn97).trans (thn_n e106))) hp106 | exact rd_1 ((one_t (d := 0) n33 n40).trans ((tst_2 hn82 hn97).trans (thn_s e106))) hp122 (((((((CdP.nil hc).keep hf8 (fun q => by omega) (fun q => by omega) (fun q => by omega)).keep hf48 (fun q => by omega) (fun q => by omega) (fun q => by omega)).keep hf82 (fun q => by omega) (fun q => by omega) (fun q => by omega)).keep hf97 (fun q => by omega) (fun q => by omega) (fun q => by omega)).keep hf106 (fun q => by omega) (fun q => by omega) (fun q => by omega)).put hP122)⟩
          exact W.zret (v := 0) hx hb hr rfl (fun t_ ht_ hW_ => ⟨⟨0, S_23, rfl, hpost, by rw [ht_]; exact hP, va_K.moved hW_.alike hK, hD⟩, hS.F ht_⟩) hS.2.2 (fk_get fk_cX9_readOne_2 9 rfl)
        have hn97 : ¬ cix (τ (pz + 1)) < 0 := by first | assumption | exact Int32.not_lt.mpr c_26
        have hz97 := hTx.lt rfl (cix_ne hn97)
        have hp97 : fF S_23 57 2 = nI (pz + 2) := (hK97.2.resolve_left (fun q => hn97 q.1)).2
        refine lv_aload_n hx hb (fk_get fk_cX9_readOne_1 25 rfl) rfl (lv_at hl 2 rfl) ?_
        have hFc := va_self hD hS hA
        refine va_calli (va_runV (As := []) (rest := []) ⟨hx, hb, hml, hown, hT⟩ (c_x9_numE l G ad S_23 H.size (z) (pz + 2) (τ) (by first | assumption | omega) (by first | assumption | omega) (by first | assumption | omega) (hX_24)) (tV 0 hT m3_49 m3_51 mp_5 m1_12 m3_52 rfl rfl (by decide +kernel) ⟨Nat.le_of_ble_eq_true rfl, Nat.le_of_ble_eq_true rfl⟩) ⟨PcW_blind, va_recv hK hP (ci := 11) (q0 := 57) rfl (ix_at (lt71 (by omega)) (cX_text G ad S_23)), PcW_of hP hK hD _⟩ rfl rfl hl.1 rfl (lv_room (Nat.le_of_ble_eq_true rfl)) (fk_get fk_cX9_readOne_1 26 rfl) ⟨Nat.zero_le _, Nat.zero_le _⟩) hS (fun q _ h => hFc q h) hFc (fun r_27 S_29 t_ H locs ht_ hvm_ hw_28 hB_ hz_ hk_ hS => ?_)
        obtain ⟨hP, -, hD1_⟩ := hB_
        rw [ht_] at hP
        have hD : va_D A (wX G ad S_29) := hD1_.weaken (fun k q _ h => hFc q.1 h)
        try dsimp only at hw_28
        obtain ⟨hX_30, hF_31_, hw_28⟩ := hw_28
        have hF_31 : Fr (fun j k => (j = 57 ∧ (k = 2 ∨ k = 7 ∨ k = 8)) ∨ ((j = 59 ∨ j = 60) ∧ k = 99)) S S_29 := Fr.trans hF_25 (Fr.mono hF_31_ (fun j k h => by omega))
        have hK106 := hw_28
        have hf106 := hF_31_
        have hT106 := hT97.fr hF_31_ (fun q => by omega) (fun q => by omega)
        have hc106 := (Fr.F hF_31_ (j := 57) (k := 7) (lt71 (by omega)) (fun q => by omega)).trans hc97
        refine lv_if_eq (tgt := 132) hx hb (fk_get fk_cX9_readOne_1 27 rfl) (by decide) (fun c_32 => ?_) (fun c_32 => ?_)
        · obtain ⟨e106, hp106⟩ := nu_n hK106 c_32
          refine lv_iconst (v := 0) hx hb (fk_get fk_cX9_readOne_2 8 rfl) (by decide) ?_
          subst hQ
          have hpost : XI S_29 ∧ Fr (fun j k => (j = 57 ∧ (k = 2 ∨ k = 7 ∨ k = 8)) ∨ ((j = 59 ∨ j = 60) ∧ k = 99)) S S_29 ∧ RdP (oneP cdA τ 1 pz) c (0 : Int32) S S_29 := by
            exact ⟨hX_30, hF_31, by first | exact rd_1 ((one_33 (d := 0) h33).trans (thn_s e18)) hp28 ((hC18.base hf8 (fun q => by omega) (fun q => by omega)).put hP28) | exact rd_0 ((one_33 (d := 0) h33).trans (thn_n e18)) hp18 | exact rd_1 ((one_40 (d := 0) n33 h40).trans ((thn_s e58).trans (if_pos h41))) hp67 (((hC58.base hf48 (fun q => by omega) (fun q => by omega)).base hf8 (fun q => by omega) (fun q => by omega)).keep hf67 (fun q => by omega) (fun q => by omega) (fun q => by omega)) | exact rd_0 ((one_40 (d := 0) n33 h40).trans ((thn_s e58).trans (if_neg n41))) hp67 | exact rd_0 ((one_40 (d := 0) n33 h40).trans (thn_n e58)) hp58 | exact rd_0 ((one_t (d := 0) n33 n40).trans (tst_0 hn82)) hp82 | exact rd_0 ((one_t (d := 0) n33 n40).trans (tst_1 hn82 hn97)) hp97 | exact rd_0 ((one_t (d := 0) n33 n40).trans ((tst_2 hn82 hn97).trans (thn_n e106))) hp106 | exact rd_1 ((one_t (d := 0) n33 n40).trans ((tst_2 hn82 hn97).trans (thn_s e106))) hp122 (((((((CdP.nil hc).keep hf8 (fun q => by omega) (fun q => by omega) (fun q => by omega)).keep hf48 (fun q => by omega) (fun q => by omega) (fun q => by omega)).keep hf82 (fun q => by omega) (fun q => by omega) (fun q => by omega)).keep hf97 (fun q => by omega) (fun q => by omega) (fun q => by omega)).keep hf106 (fun q => by omega) (fun q => by omega) (fun q => by omega)).put hP122)⟩
          exact W.zret (v := 0) hx hb hr rfl (fun t_ ht_ hW_ => ⟨⟨0, S_29, rfl, hpost, by rw [ht_]; exact hP, va_K.moved hW_.alike hK, hD⟩, hS.F ht_⟩) hS.2.2 (fk_get fk_cX9_readOne_2 9 rfl)
        obtain ⟨v106, e106, hp106, hv106⟩ := nu_y hK106 c_32
        obtain ⟨g1, g2, g3⟩ := hTx.num (p := pz + 2) (by omega)
        have g4 := g3 (by rw [e106]; exact fun q => by cases q)
        refine lv_aload_n hx hb (fk_get fk_cX9_readOne_1 28 rfl) rfl (lv_at hl 2 rfl) ?_
        refine lv_iload_n hx hb (fk_get fk_cX9_readOne_1 29 rfl) rfl (lv_at hl 1 rfl) ?_
        refine lv_iconst (v := 3) hx hb (fk_get fk_cX9_readOne_1 30 rfl) (by decide) ?_
        refine lv_imul hx hb (fk_get fk_cX9_readOne_1 31 rfl) ?_
        refine lv_iload_n hx hb (fk_get fk_cX9_readOne_2 0 rfl) rfl (lv_at hl 0 rfl) ?_
        refine lv_iadd hx hb (fk_get fk_cX9_readOne_2 1 rfl) ?_
        refine lv_aload_n hx hb (fk_get fk_cX9_readOne_2 2 rfl) rfl (lv_at hl 2 rfl) ?_
        refine va_get (D := G.1) (ci := 11) (v := .int (fF S_29 57 8)) (C := RX9) (T := TX9) (N := 9) hx hb hT inX9 hown hK hP 57 (ix_at (lt71 (by omega)) (cX_text G ad S_29)) rfl 8 (by decide) (hT _ m2_17) (fun _ h9 => h9) rfl (fk_get fk_cX9_readOne_2 3 rfl) ?_
        rw [show (fF S_29 57 8) = v106 from hv106]
        have hFc := va_self hD hS hA
        refine va_calli (va_runV (As := [.int ((((lix (τ pz)) * 3) + (cix (τ (pz + 1))))), .int (v106)]) (rest := []) ⟨hx, hb, hml, hown, hT⟩ (c_x9_putE l G ad S_29 H.size (c) ((((lix (τ pz)) * 3) + (cix (τ (pz + 1))))) (v106) (by first | assumption | omega) (by first | assumption | omega) (hX_30)) (tV 2 hT m3_68 m3_70 mp_9 m1_12 m3_71 rfl rfl (by decide +kernel) ⟨Nat.le_of_ble_eq_true rfl, Nat.le_of_ble_eq_true rfl⟩) ⟨PcW_blind, va_recv hK hP (ci := 11) (q0 := 57) rfl (ix_at (lt71 (by omega)) (cX_text G ad S_29)), PcW_of hP hK hD _⟩ rfl rfl hl.1 rfl (lv_room (Nat.le_of_ble_eq_true rfl)) (fk_get fk_cX9_readOne_2 4 rfl) ⟨Nat.zero_le _, Nat.zero_le _⟩) hS (fun q _ h => hFc q h) hFc (fun r_33 S_35 t_ H locs ht_ hvm_ hw_34 hB_ hz_ hk_ hS => ?_)
        obtain ⟨hP, -, hD1_⟩ := hB_
        rw [ht_] at hP
        have hD : va_D A (wX G ad S_35) := hD1_.weaken (fun k q _ h => hFc q.1 h)
        try dsimp only at hw_34
        obtain ⟨hX_36, hF_37_, hw_34⟩ := hw_34
        have hF_37 : Fr (fun j k => (j = 57 ∧ (k = 2 ∨ k = 7 ∨ k = 8)) ∨ ((j = 59 ∨ j = 60) ∧ k = 99)) S S_35 := Fr.trans hF_31 (Fr.mono hF_37_ (fun j k h => by omega))
        obtain ⟨e_, hP122⟩ := hw_34
        subst e_
        have hp122 := (Fr.F hF_37_ (j := 57) (k := 2) (lt71 (by omega)) (fun q => by omega)).trans hp106
        refine lv_if_eq (tgt := 132) hx hb (fk_get fk_cX9_readOne_2 5 rfl) (by decide) (fun c_38 => absurd c_38 ((by decide))) (fun _ => ?_)
        refine lv_iconst (v := 1) hx hb (fk_get fk_cX9_readOne_2 6 rfl) (by decide) ?_
        refine lv_goto (tgt := 133) hx hb (fk_get fk_cX9_readOne_2 7 rfl) (by decide) ?_
        subst hQ
        have hpost : XI S_35 ∧ Fr (fun j k => (j = 57 ∧ (k = 2 ∨ k = 7 ∨ k = 8)) ∨ ((j = 59 ∨ j = 60) ∧ k = 99)) S S_35 ∧ RdP (oneP cdA τ 1 pz) c (1 : Int32) S S_35 := by
          exact ⟨hX_36, hF_37, by first | exact rd_1 ((one_33 (d := 0) h33).trans (thn_s e18)) hp28 ((hC18.base hf8 (fun q => by omega) (fun q => by omega)).put hP28) | exact rd_0 ((one_33 (d := 0) h33).trans (thn_n e18)) hp18 | exact rd_1 ((one_40 (d := 0) n33 h40).trans ((thn_s e58).trans (if_pos h41))) hp67 (((hC58.base hf48 (fun q => by omega) (fun q => by omega)).base hf8 (fun q => by omega) (fun q => by omega)).keep hf67 (fun q => by omega) (fun q => by omega) (fun q => by omega)) | exact rd_0 ((one_40 (d := 0) n33 h40).trans ((thn_s e58).trans (if_neg n41))) hp67 | exact rd_0 ((one_40 (d := 0) n33 h40).trans (thn_n e58)) hp58 | exact rd_0 ((one_t (d := 0) n33 n40).trans (tst_0 hn82)) hp82 | exact rd_0 ((one_t (d := 0) n33 n40).trans (tst_1 hn82 hn97)) hp97 | exact rd_0 ((one_t (d := 0) n33 n40).trans ((tst_2 hn82 hn97).trans (thn_n e106))) hp106 | exact rd_1 ((one_t (d := 0) n33 n40).trans ((tst_2 hn82 hn97).trans (thn_s e106))) hp122 (((((((CdP.nil hc).keep hf8 (fun q => by omega) (fun q => by omega) (fun q => by omega)).keep hf48 (fun q => by omega) (fun q => by omega) (fun q => by omega)).keep hf82 (fun q => by omega) (fun q => by omega) (fun q => by omega)).keep hf97 (fun q => by omega) (fun q => by omega) (fun q => by omega)).keep hf106 (fun q => by omega) (fun q => by omega) (fun q => by omega)).put hP122)⟩
        exact W.zret (v := 1) hx hb hr rfl (fun t_ ht_ hW_ => ⟨⟨1, S_35, rfl, hpost, by rw [ht_]; exact hP, va_K.moved hW_.alike hK, hD⟩, hS.F ht_⟩) hS.2.2 (fk_get fk_cX9_readOne_2 9 rfl)
      have hn82 : lix (τ pz) < 0 := Int32.not_le.mp c_20
      have hp82 := (hK82.2.resolve_right (fun q => q.1 hn82)).2
      refine lv_iload_n hx hb (fk_get fk_cX9_readOne_1 17 rfl) rfl (lv_at hl 0 rfl) ?_
      refine lv_goto (tgt := 100) hx hb (fk_get fk_cX9_readOne_1 18 rfl) (by decide) ?_
      refine lv_istore_n (lv' := [(3, .int ((lix (τ pz)))), (2, .int ((lix (τ pz)))), (0, .ref (ad 57)), (1, .int (3))]) hx hb (fk_get fk_cX9_readOne_1 22 rfl) rfl hl (by decide) rfl (fun ls hl => ?_)
      refine lv_iload_n hx hb (fk_get fk_cX9_readOne_1 23 rfl) rfl (lv_at hl 0 rfl) ?_
      refine lv_if_lt (tgt := 132) hx hb (fk_get fk_cX9_readOne_1 24 rfl) (by decide) (fun _ => ?_) (fun c_39 => absurd (by first | assumption | exact Int32.not_lt.mp (by assumption) | exact Int32.not_le.mp (by assumption) | exact Int32.not_lt.mpr (by assumption) | exact Int32.not_le.mpr (by assumption) ) c_39)
      try have hn97 : cix (τ (pz + 1)) < 0 := by assumption
      try have hp97 := (hK97.2.resolve_right (fun q => q.1 hn97)).2
      refine lv_iconst (v := 0) hx hb (fk_get fk_cX9_readOne_2 8 rfl) (by decide) ?_
      subst hQ
      have hpost : XI S_17 ∧ Fr (fun j k => (j = 57 ∧ (k = 2 ∨ k = 7 ∨ k = 8)) ∨ ((j = 59 ∨ j = 60) ∧ k = 99)) S S_17 ∧ RdP (oneP cdA τ 1 pz) c (0 : Int32) S S_17 := by
        exact ⟨hX_18, hF_19, by first | exact rd_1 ((one_33 (d := 0) h33).trans (thn_s e18)) hp28 ((hC18.base hf8 (fun q => by omega) (fun q => by omega)).put hP28) | exact rd_0 ((one_33 (d := 0) h33).trans (thn_n e18)) hp18 | exact rd_1 ((one_40 (d := 0) n33 h40).trans ((thn_s e58).trans (if_pos h41))) hp67 (((hC58.base hf48 (fun q => by omega) (fun q => by omega)).base hf8 (fun q => by omega) (fun q => by omega)).keep hf67 (fun q => by omega) (fun q => by omega) (fun q => by omega)) | exact rd_0 ((one_40 (d := 0) n33 h40).trans ((thn_s e58).trans (if_neg n41))) hp67 | exact rd_0 ((one_40 (d := 0) n33 h40).trans (thn_n e58)) hp58 | exact rd_0 ((one_t (d := 0) n33 n40).trans (tst_0 hn82)) hp82 | exact rd_0 ((one_t (d := 0) n33 n40).trans (tst_1 hn82 hn97)) hp97 | exact rd_0 ((one_t (d := 0) n33 n40).trans ((tst_2 hn82 hn97).trans (thn_n e106))) hp106 | exact rd_1 ((one_t (d := 0) n33 n40).trans ((tst_2 hn82 hn97).trans (thn_s e106))) hp122 (((((((CdP.nil hc).keep hf8 (fun q => by omega) (fun q => by omega) (fun q => by omega)).keep hf48 (fun q => by omega) (fun q => by omega) (fun q => by omega)).keep hf82 (fun q => by omega) (fun q => by omega) (fun q => by omega)).keep hf97 (fun q => by omega) (fun q => by omega) (fun q => by omega)).keep hf106 (fun q => by omega) (fun q => by omega) (fun q => by omega)).put hP122)⟩
      exact W.zret (v := 0) hx hb hr rfl (fun t_ ht_ hW_ => ⟨⟨0, S_17, rfl, hpost, by rw [ht_]; exact hP, va_K.moved hW_.alike hK, hD⟩, hS.F ht_⟩) hS.2.2 (fk_get fk_cX9_readOne_2 9 rfl)
    obtain ⟨h40, hp48⟩ := tk_y hK48 c_14
    have hz40 := hTx.lt h40 (by decide)
    refine lv_aload_n hx hb (fk_get fk_cX9_readOne_0 29 rfl) rfl (lv_at hl 0 rfl) ?_
    refine lv_iload_n hx hb (fk_get fk_cX9_readOne_0 30 rfl) rfl (lv_at hl 1 rfl) ?_
    refine lv_iconst (v := 1) hx hb (fk_get fk_cX9_readOne_0 31 rfl) (by decide) ?_
    refine lv_iadd hx hb (fk_get fk_cX9_readOne_1 0 rfl) ?_
    rw [show ((3 + 1) : Int32) = 4 from by decide]
    have hFc := va_self hD hS hA
    refine va_calli (va_runV (As := [.int (4)]) (rest := []) ⟨hx, hb, hml, hown, hT⟩ (c_x9_any4E l G ad S_11 H.size (z) (pz + 1) (c) (τ) (by first | assumption | omega) (by first | assumption | omega) (by first | assumption | omega) (by first | assumption | omega) (by first | assumption | omega) (hX_12)) (tV 1 hT m3_56 m3_58 mp_6 m1_12 m3_59 rfl rfl (by decide +kernel) ⟨Nat.le_of_ble_eq_true rfl, Nat.le_of_ble_eq_true rfl⟩) ⟨PcE_blind, va_recv hK hP (ci := 11) (q0 := 57) rfl (ix_at (lt71 (by omega)) (cX_text G ad S_11)), PcE_of hP hK hD hE hS (fun q h => hFc q h) _⟩ rfl rfl hl.1 rfl (lv_room (Nat.le_of_ble_eq_true rfl)) (fk_get fk_cX9_readOne_1 1 rfl) ⟨Nat.zero_le _, Nat.zero_le _⟩) hS (fun q _ h => hFc q h) hFc (fun r_40 S_42 t_ H locs ht_ hvm_ hw_41 hB_ hz_ hk_ hS => ?_)
    obtain ⟨hP, -, hD1_⟩ := hB_
    rw [ht_] at hP
    have hD : va_D A (wX G ad S_42) := hD1_.weaken (fun k q _ h => hFc q.1 h)
    try dsimp only at hw_41
    obtain ⟨hX_43, hF_44_, hw_41⟩ := hw_41
    have hF_44 : Fr (fun j k => (j = 57 ∧ (k = 2 ∨ k = 7 ∨ k = 8)) ∨ ((j = 59 ∨ j = 60) ∧ k = 99)) S S_42 := Fr.trans hF_13 (Fr.mono hF_44_ (fun j k h => by omega))
    have hK58 := hw_41
    have hf58 := hF_44_
    have hT58 := hT48.fr hF_44_ (fun q => by omega) (fun q => by omega)
    refine lv_if_eq (tgt := 77) hx hb (fk_get fk_cX9_readOne_1 2 rfl) (by decide) (fun c_45 => ?_) (fun c_45 => ?_)
    · obtain ⟨e58, hp58⟩ := rd_n hK58 c_45
      refine lv_iconst (v := 0) hx hb (fk_get fk_cX9_readOne_1 9 rfl) (by decide) ?_
      subst hQ
      have hpost : XI S_42 ∧ Fr (fun j k => (j = 57 ∧ (k = 2 ∨ k = 7 ∨ k = 8)) ∨ ((j = 59 ∨ j = 60) ∧ k = 99)) S S_42 ∧ RdP (oneP cdA τ 1 pz) c (0 : Int32) S S_42 := by
        exact ⟨hX_43, hF_44, by first | exact rd_1 ((one_33 (d := 0) h33).trans (thn_s e18)) hp28 ((hC18.base hf8 (fun q => by omega) (fun q => by omega)).put hP28) | exact rd_0 ((one_33 (d := 0) h33).trans (thn_n e18)) hp18 | exact rd_1 ((one_40 (d := 0) n33 h40).trans ((thn_s e58).trans (if_pos h41))) hp67 (((hC58.base hf48 (fun q => by omega) (fun q => by omega)).base hf8 (fun q => by omega) (fun q => by omega)).keep hf67 (fun q => by omega) (fun q => by omega) (fun q => by omega)) | exact rd_0 ((one_40 (d := 0) n33 h40).trans ((thn_s e58).trans (if_neg n41))) hp67 | exact rd_0 ((one_40 (d := 0) n33 h40).trans (thn_n e58)) hp58 | exact rd_0 ((one_t (d := 0) n33 n40).trans (tst_0 hn82)) hp82 | exact rd_0 ((one_t (d := 0) n33 n40).trans (tst_1 hn82 hn97)) hp97 | exact rd_0 ((one_t (d := 0) n33 n40).trans ((tst_2 hn82 hn97).trans (thn_n e106))) hp106 | exact rd_1 ((one_t (d := 0) n33 n40).trans ((tst_2 hn82 hn97).trans (thn_s e106))) hp122 (((((((CdP.nil hc).keep hf8 (fun q => by omega) (fun q => by omega) (fun q => by omega)).keep hf48 (fun q => by omega) (fun q => by omega) (fun q => by omega)).keep hf82 (fun q => by omega) (fun q => by omega) (fun q => by omega)).keep hf97 (fun q => by omega) (fun q => by omega) (fun q => by omega)).keep hf106 (fun q => by omega) (fun q => by omega) (fun q => by omega)).put hP122)⟩
      exact W.zret (v := 0) hx hb hr rfl (fun t_ ht_ hW_ => ⟨⟨0, S_42, rfl, hpost, by rw [ht_]; exact hP, va_K.moved hW_.alike hK, hD⟩, hS.F ht_⟩) hS.2.2 (fk_get fk_cX9_readOne_1 10 rfl)
    obtain ⟨L58, e58, hp58, hC58⟩ := rd_y hK58 c_45
    obtain ⟨g1, g2, g3⟩ := hTx.any 0 (pz + 1) (by omega)
    have g4 := g3 L58 e58
    refine lv_aload_n hx hb (fk_get fk_cX9_readOne_1 3 rfl) rfl (lv_at hl 0 rfl) ?_
    refine lv_bipush (v := 41) hx hb (fk_get fk_cX9_readOne_1 4 rfl) (by decide) ?_
    have hFc := va_self hD hS hA
    refine va_calli (va_runV (As := [.int (41)]) (rest := []) ⟨hx, hb, hml, hown, hT⟩ (c_x9_takesE l G ad S_42 H.size (z) ((anyP cdA (oneP cdA τ 0) τ (pz + 1)).2) (41) (τ) (by first | assumption | omega) (by first | assumption | omega) (by first | assumption | omega) (hX_43)) (tV 1 hT m2_213 m2_215 mp_0 m1_12 m2_216 rfl rfl (by decide +kernel) ⟨Nat.le_of_ble_eq_true rfl, Nat.le_of_ble_eq_true rfl⟩) ⟨PcW_blind, va_recv hK hP (ci := 11) (q0 := 57) rfl (ix_at (lt71 (by omega)) (cX_text G ad S_42)), PcW_of hP hK hD _⟩ rfl rfl hl.1 rfl (lv_room (Nat.le_of_ble_eq_true rfl)) (fk_get fk_cX9_readOne_1 5 rfl) ⟨Nat.zero_le _, Nat.zero_le _⟩) hS (fun q _ h => hFc q h) hFc (fun r_46 S_48 t_ H locs ht_ hvm_ hw_47 hB_ hz_ hk_ hS => ?_)
    obtain ⟨hP, -, hD1_⟩ := hB_
    rw [ht_] at hP
    have hD : va_D A (wX G ad S_48) := hD1_.weaken (fun k q _ h => hFc q.1 h)
    try dsimp only at hw_47
    obtain ⟨hX_49, hF_50_, hw_47⟩ := hw_47
    have hF_50 : Fr (fun j k => (j = 57 ∧ (k = 2 ∨ k = 7 ∨ k = 8)) ∨ ((j = 59 ∨ j = 60) ∧ k = 99)) S S_48 := Fr.trans hF_44 (Fr.mono hF_50_ (fun j k h => by omega))
    have hK67 := hw_47
    have hf67 := hF_50_
    refine lv_if_eq (tgt := 77) hx hb (fk_get fk_cX9_readOne_1 6 rfl) (by decide) (fun c_51 => ?_) (fun c_51 => ?_)
    · obtain ⟨n41, hp67⟩ := tk_n hK67 c_51
      refine lv_iconst (v := 0) hx hb (fk_get fk_cX9_readOne_1 9 rfl) (by decide) ?_
      subst hQ
      have hpost : XI S_48 ∧ Fr (fun j k => (j = 57 ∧ (k = 2 ∨ k = 7 ∨ k = 8)) ∨ ((j = 59 ∨ j = 60) ∧ k = 99)) S S_48 ∧ RdP (oneP cdA τ 1 pz) c (0 : Int32) S S_48 := by
        exact ⟨hX_49, hF_50, by first | exact rd_1 ((one_33 (d := 0) h33).trans (thn_s e18)) hp28 ((hC18.base hf8 (fun q => by omega) (fun q => by omega)).put hP28) | exact rd_0 ((one_33 (d := 0) h33).trans (thn_n e18)) hp18 | exact rd_1 ((one_40 (d := 0) n33 h40).trans ((thn_s e58).trans (if_pos h41))) hp67 (((hC58.base hf48 (fun q => by omega) (fun q => by omega)).base hf8 (fun q => by omega) (fun q => by omega)).keep hf67 (fun q => by omega) (fun q => by omega) (fun q => by omega)) | exact rd_0 ((one_40 (d := 0) n33 h40).trans ((thn_s e58).trans (if_neg n41))) hp67 | exact rd_0 ((one_40 (d := 0) n33 h40).trans (thn_n e58)) hp58 | exact rd_0 ((one_t (d := 0) n33 n40).trans (tst_0 hn82)) hp82 | exact rd_0 ((one_t (d := 0) n33 n40).trans (tst_1 hn82 hn97)) hp97 | exact rd_0 ((one_t (d := 0) n33 n40).trans ((tst_2 hn82 hn97).trans (thn_n e106))) hp106 | exact rd_1 ((one_t (d := 0) n33 n40).trans ((tst_2 hn82 hn97).trans (thn_s e106))) hp122 (((((((CdP.nil hc).keep hf8 (fun q => by omega) (fun q => by omega) (fun q => by omega)).keep hf48 (fun q => by omega) (fun q => by omega) (fun q => by omega)).keep hf82 (fun q => by omega) (fun q => by omega) (fun q => by omega)).keep hf97 (fun q => by omega) (fun q => by omega) (fun q => by omega)).keep hf106 (fun q => by omega) (fun q => by omega) (fun q => by omega)).put hP122)⟩
      exact W.zret (v := 0) hx hb hr rfl (fun t_ ht_ hW_ => ⟨⟨0, S_48, rfl, hpost, by rw [ht_]; exact hP, va_K.moved hW_.alike hK, hD⟩, hS.F ht_⟩) hS.2.2 (fk_get fk_cX9_readOne_1 10 rfl)
    obtain ⟨h41, hp67⟩ := tk_y hK67 c_51
    refine lv_iconst (v := 1) hx hb (fk_get fk_cX9_readOne_1 7 rfl) (by decide) ?_
    refine lv_goto (tgt := 78) hx hb (fk_get fk_cX9_readOne_1 8 rfl) (by decide) ?_
    subst hQ
    have hpost : XI S_48 ∧ Fr (fun j k => (j = 57 ∧ (k = 2 ∨ k = 7 ∨ k = 8)) ∨ ((j = 59 ∨ j = 60) ∧ k = 99)) S S_48 ∧ RdP (oneP cdA τ 1 pz) c (1 : Int32) S S_48 := by
      exact ⟨hX_49, hF_50, by first | exact rd_1 ((one_33 (d := 0) h33).trans (thn_s e18)) hp28 ((hC18.base hf8 (fun q => by omega) (fun q => by omega)).put hP28) | exact rd_0 ((one_33 (d := 0) h33).trans (thn_n e18)) hp18 | exact rd_1 ((one_40 (d := 0) n33 h40).trans ((thn_s e58).trans (if_pos h41))) hp67 (((hC58.base hf48 (fun q => by omega) (fun q => by omega)).base hf8 (fun q => by omega) (fun q => by omega)).keep hf67 (fun q => by omega) (fun q => by omega) (fun q => by omega)) | exact rd_0 ((one_40 (d := 0) n33 h40).trans ((thn_s e58).trans (if_neg n41))) hp67 | exact rd_0 ((one_40 (d := 0) n33 h40).trans (thn_n e58)) hp58 | exact rd_0 ((one_t (d := 0) n33 n40).trans (tst_0 hn82)) hp82 | exact rd_0 ((one_t (d := 0) n33 n40).trans (tst_1 hn82 hn97)) hp97 | exact rd_0 ((one_t (d := 0) n33 n40).trans ((tst_2 hn82 hn97).trans (thn_n e106))) hp106 | exact rd_1 ((one_t (d := 0) n33 n40).trans ((tst_2 hn82 hn97).trans (thn_s e106))) hp122 (((((((CdP.nil hc).keep hf8 (fun q => by omega) (fun q => by omega) (fun q => by omega)).keep hf48 (fun q => by omega) (fun q => by omega) (fun q => by omega)).keep hf82 (fun q => by omega) (fun q => by omega) (fun q => by omega)).keep hf97 (fun q => by omega) (fun q => by omega) (fun q => by omega)).keep hf106 (fun q => by omega) (fun q => by omega) (fun q => by omega)).put hP122)⟩
    exact W.zret (v := 1) hx hb hr rfl (fun t_ ht_ hW_ => ⟨⟨1, S_48, rfl, hpost, by rw [ht_]; exact hP, va_K.moved hW_.alike hK, hD⟩, hS.F ht_⟩) hS.2.2 (fk_get fk_cX9_readOne_1 10 rfl)
  obtain ⟨h33, hp8⟩ := tk_y hK8 c_7
  have hz33 := hTx.lt h33 (by decide)
  refine lv_aload_n hx hb (fk_get fk_cX9_readOne_0 7 rfl) rfl (lv_at hl 0 rfl) ?_
  refine lv_iload_n hx hb (fk_get fk_cX9_readOne_0 8 rfl) rfl (lv_at hl 1 rfl) ?_
  refine lv_iconst (v := 1) hx hb (fk_get fk_cX9_readOne_0 9 rfl) (by decide) ?_
  refine lv_iadd hx hb (fk_get fk_cX9_readOne_0 10 rfl) ?_
  rw [show ((3 + 1) : Int32) = 4 from by decide]
  have hFc := va_self hD hS hA
  refine va_calli (va_runV (As := [.int (4)]) (rest := []) ⟨hx, hb, hml, hown, hT⟩ (c_x9_one4E l G ad S_4 H.size (z) (pz + 1) (c) (τ) (by first | assumption | omega) (by first | assumption | omega) (by first | assumption | omega) (by first | assumption | omega) (by first | assumption | omega) (hX_5)) (tV 1 hT m3_64 m3_66 mp_8 m1_12 m3_67 rfl rfl (by decide +kernel) ⟨Nat.le_of_ble_eq_true rfl, Nat.le_of_ble_eq_true rfl⟩) ⟨PcE_blind, va_recv hK hP (ci := 11) (q0 := 57) rfl (ix_at (lt71 (by omega)) (cX_text G ad S_4)), PcE_of hP hK hD hE hS (fun q h => hFc q h) _⟩ rfl rfl hl.1 rfl (lv_room (Nat.le_of_ble_eq_true rfl)) (fk_get fk_cX9_readOne_0 11 rfl) ⟨Nat.zero_le _, Nat.zero_le _⟩) hS (fun q _ h => hFc q h) hFc (fun r_52 S_54 t_ H locs ht_ hvm_ hw_53 hB_ hz_ hk_ hS => ?_)
  obtain ⟨hP, -, hD1_⟩ := hB_
  rw [ht_] at hP
  have hD : va_D A (wX G ad S_54) := hD1_.weaken (fun k q _ h => hFc q.1 h)
  try dsimp only at hw_53
  obtain ⟨hX_55, hF_56_, hw_53⟩ := hw_53
  have hF_56 : Fr (fun j k => (j = 57 ∧ (k = 2 ∨ k = 7 ∨ k = 8)) ∨ ((j = 59 ∨ j = 60) ∧ k = 99)) S S_54 := Fr.trans hF_6 (Fr.mono hF_56_ (fun j k h => by omega))
  have hK18 := hw_53
  have hf18 := hF_56_
  have hT18 := hT8.fr hF_56_ (fun q => by omega) (fun q => by omega)
  refine lv_if_eq (tgt := 38) hx hb (fk_get fk_cX9_readOne_0 12 rfl) (by decide) (fun c_57 => ?_) (fun c_57 => ?_)
  · obtain ⟨e18, hp18⟩ := rd_n hK18 c_57
    refine lv_iconst (v := 0) hx hb (fk_get fk_cX9_readOne_0 20 rfl) (by decide) ?_
    subst hQ
    have hpost : XI S_54 ∧ Fr (fun j k => (j = 57 ∧ (k = 2 ∨ k = 7 ∨ k = 8)) ∨ ((j = 59 ∨ j = 60) ∧ k = 99)) S S_54 ∧ RdP (oneP cdA τ 1 pz) c (0 : Int32) S S_54 := by
      exact ⟨hX_55, hF_56, by first | exact rd_1 ((one_33 (d := 0) h33).trans (thn_s e18)) hp28 ((hC18.base hf8 (fun q => by omega) (fun q => by omega)).put hP28) | exact rd_0 ((one_33 (d := 0) h33).trans (thn_n e18)) hp18 | exact rd_1 ((one_40 (d := 0) n33 h40).trans ((thn_s e58).trans (if_pos h41))) hp67 (((hC58.base hf48 (fun q => by omega) (fun q => by omega)).base hf8 (fun q => by omega) (fun q => by omega)).keep hf67 (fun q => by omega) (fun q => by omega) (fun q => by omega)) | exact rd_0 ((one_40 (d := 0) n33 h40).trans ((thn_s e58).trans (if_neg n41))) hp67 | exact rd_0 ((one_40 (d := 0) n33 h40).trans (thn_n e58)) hp58 | exact rd_0 ((one_t (d := 0) n33 n40).trans (tst_0 hn82)) hp82 | exact rd_0 ((one_t (d := 0) n33 n40).trans (tst_1 hn82 hn97)) hp97 | exact rd_0 ((one_t (d := 0) n33 n40).trans ((tst_2 hn82 hn97).trans (thn_n e106))) hp106 | exact rd_1 ((one_t (d := 0) n33 n40).trans ((tst_2 hn82 hn97).trans (thn_s e106))) hp122 (((((((CdP.nil hc).keep hf8 (fun q => by omega) (fun q => by omega) (fun q => by omega)).keep hf48 (fun q => by omega) (fun q => by omega) (fun q => by omega)).keep hf82 (fun q => by omega) (fun q => by omega) (fun q => by omega)).keep hf97 (fun q => by omega) (fun q => by omega) (fun q => by omega)).keep hf106 (fun q => by omega) (fun q => by omega) (fun q => by omega)).put hP122)⟩
    exact W.zret (v := 0) hx hb hr rfl (fun t_ ht_ hW_ => ⟨⟨0, S_54, rfl, hpost, by rw [ht_]; exact hP, va_K.moved hW_.alike hK, hD⟩, hS.F ht_⟩) hS.2.2 (fk_get fk_cX9_readOne_0 21 rfl)
  obtain ⟨L18, e18, hp18, hC18⟩ := rd_y hK18 c_57
  obtain ⟨g1, g2, g3⟩ := hTx.one 0 (pz + 1) (by omega)
  have g4 := g3 L18 e18
  have hc18 := hC18.1
  refine lv_aload_n hx hb (fk_get fk_cX9_readOne_0 13 rfl) rfl (lv_at hl 0 rfl) ?_
  refine lv_bipush (v := 18) hx hb (fk_get fk_cX9_readOne_0 14 rfl) (by decide) ?_
  refine lv_iconst (v := 0) hx hb (fk_get fk_cX9_readOne_0 15 rfl) (by decide) ?_
  have hFc := va_self hD hS hA
  refine va_calli (va_runV (As := [.int (18), .int (0)]) (rest := []) ⟨hx, hb, hml, hown, hT⟩ (c_x9_putE l G ad S_54 H.size (c + L18.length) (18) (0) (by first | assumption | omega) (by first | assumption | omega) (hX_55)) (tV 2 hT m3_68 m3_70 mp_9 m1_12 m3_71 rfl rfl (by decide +kernel) ⟨Nat.le_of_ble_eq_true rfl, Nat.le_of_ble_eq_true rfl⟩) ⟨PcW_blind, va_recv hK hP (ci := 11) (q0 := 57) rfl (ix_at (lt71 (by omega)) (cX_text G ad S_54)), PcW_of hP hK hD _⟩ rfl rfl hl.1 rfl (lv_room (Nat.le_of_ble_eq_true rfl)) (fk_get fk_cX9_readOne_0 16 rfl) ⟨Nat.zero_le _, Nat.zero_le _⟩) hS (fun q _ h => hFc q h) hFc (fun r_58 S_60 t_ H locs ht_ hvm_ hw_59 hB_ hz_ hk_ hS => ?_)
  obtain ⟨hP, -, hD1_⟩ := hB_
  rw [ht_] at hP
  have hD : va_D A (wX G ad S_60) := hD1_.weaken (fun k q _ h => hFc q.1 h)
  try dsimp only at hw_59
  obtain ⟨hX_61, hF_62_, hw_59⟩ := hw_59
  have hF_62 : Fr (fun j k => (j = 57 ∧ (k = 2 ∨ k = 7 ∨ k = 8)) ∨ ((j = 59 ∨ j = 60) ∧ k = 99)) S S_60 := Fr.trans hF_56 (Fr.mono hF_62_ (fun j k h => by omega))
  obtain ⟨e_, hP28⟩ := hw_59
  subst e_
  have hp28 := (Fr.F hF_62_ (j := 57) (k := 2) (lt71 (by omega)) (fun q => by omega)).trans hp18
  refine lv_if_eq (tgt := 38) hx hb (fk_get fk_cX9_readOne_0 17 rfl) (by decide) (fun c_63 => absurd c_63 ((by decide))) (fun _ => ?_)
  refine lv_iconst (v := 1) hx hb (fk_get fk_cX9_readOne_0 18 rfl) (by decide) ?_
  refine lv_goto (tgt := 39) hx hb (fk_get fk_cX9_readOne_0 19 rfl) (by decide) ?_
  subst hQ
  have hpost : XI S_60 ∧ Fr (fun j k => (j = 57 ∧ (k = 2 ∨ k = 7 ∨ k = 8)) ∨ ((j = 59 ∨ j = 60) ∧ k = 99)) S S_60 ∧ RdP (oneP cdA τ 1 pz) c (1 : Int32) S S_60 := by
    exact ⟨hX_61, hF_62, by first | exact rd_1 ((one_33 (d := 0) h33).trans (thn_s e18)) hp28 ((hC18.base hf8 (fun q => by omega) (fun q => by omega)).put hP28) | exact rd_0 ((one_33 (d := 0) h33).trans (thn_n e18)) hp18 | exact rd_1 ((one_40 (d := 0) n33 h40).trans ((thn_s e58).trans (if_pos h41))) hp67 (((hC58.base hf48 (fun q => by omega) (fun q => by omega)).base hf8 (fun q => by omega) (fun q => by omega)).keep hf67 (fun q => by omega) (fun q => by omega) (fun q => by omega)) | exact rd_0 ((one_40 (d := 0) n33 h40).trans ((thn_s e58).trans (if_neg n41))) hp67 | exact rd_0 ((one_40 (d := 0) n33 h40).trans (thn_n e58)) hp58 | exact rd_0 ((one_t (d := 0) n33 n40).trans (tst_0 hn82)) hp82 | exact rd_0 ((one_t (d := 0) n33 n40).trans (tst_1 hn82 hn97)) hp97 | exact rd_0 ((one_t (d := 0) n33 n40).trans ((tst_2 hn82 hn97).trans (thn_n e106))) hp106 | exact rd_1 ((one_t (d := 0) n33 n40).trans ((tst_2 hn82 hn97).trans (thn_s e106))) hp122 (((((((CdP.nil hc).keep hf8 (fun q => by omega) (fun q => by omega) (fun q => by omega)).keep hf48 (fun q => by omega) (fun q => by omega) (fun q => by omega)).keep hf82 (fun q => by omega) (fun q => by omega) (fun q => by omega)).keep hf97 (fun q => by omega) (fun q => by omega) (fun q => by omega)).keep hf106 (fun q => by omega) (fun q => by omega) (fun q => by omega)).put hP122)⟩
  exact W.zret (v := 1) hx hb hr rfl (fun t_ ht_ hW_ => ⟨⟨1, S_60, rfl, hpost, by rw [ht_]; exact hP, va_K.moved hW_.alike hK, hD⟩, hS.F ht_⟩) hS.2.2 (fk_get fk_cX9_readOne_0 21 rfl)
set_option maxHeartbeats 800000 in
set_option maxRecDepth 100000 in
theorem c_x9_all3E (l : Launch) (G : GG) (ad : Nat → Nat) (S : FS) (sz : Nat) (z pz c : Nat) (τ : Nat → Int32) (hTx : TXz S z τ) (hp : fF S 57 2 = nI pz) (hpz : pz ≤ z) (hc : fF S 57 7 = nI c) (hcp : c ≤ pz) (hX : XI S) : Met l yX9_readAll (Cond.code yX9_readAll cX9_readAll 3 (some .boolean) :: TBL) ({ frames := 11, cells := 0, slots := 0, locals := 304 } : Room) (PcE G (wX G ad S) sz [.ref (ad 57), .int (3)]) (va_Qi (fun (r : Int32) (S' : FS) => XI S' ∧ Fr (fun j k => (j = 57 ∧ (k = 2 ∨ k = 7 ∨ k = 8)) ∨ ((j = 59 ∨ j = 60) ∧ k = 99)) S S' ∧ RdP (allP cdA (oneP cdA τ 1) τ pz) c r S S') (fun S' t => BW G (va_A (wX G ad S) sz) (wX G ad S') t) (va_A (wX G ad S) sz)) 0 0 (va_A (wX G ad S) sz) := by
  refine Met.ofW (cc := cX9_readAll) (maxL := 3) (ret := (some .boolean)) (by decide) rfl ?_
  intro p e s m args below meth c₀ s₁ B hml hv
  obtain ⟨rfl, hsz, hP, hK, hD0, hE⟩ := hv
  have hx := B.exec
  have hb := B.bytes
  have hr := B.returns
  have hT : ∀ w ∈ TBL, w.before ([.ref (ad 57), .int (3)] : List Value).toArray s = true := fun w h => atoms_spec (ws := Cond.code yX9_readAll cX9_readAll 3 (some .boolean) :: TBL) B.pre w (List.mem_cons_of_mem _ h)
  have hown : s.vm.findClass "LittleMore$Text" = some m.cls := findClass_of_methodNamed B.named
  have hlocks := B.notSynchronized
  subst hsz
  have hD := hD0.self (sz := s.heap.size)
  generalize hAe : va_A (wX G ad S) s.heap.size = A at hD hE ⊢
  have hA : ∀ q : Nat, s.heap.size ≤ q → A q := fun q h => by rw [← hAe]; exact Or.inr h
  have hS : va_S A s.heap s.heap [] := va_S.rf
  have hP : va_P G.1 vwCl (wX G ad S) s.heap := hP
  have hl := lv_entry ([.ref (ad 57), .int (3)]) (n := 3) (Nat.le_of_ble_eq_true rfl)
  rw [lg_entry_eq]
  generalize (lg_sl ([.ref (ad 57), .int (3)]) ++ List.replicate (3 - (lg_sl ([.ref (ad 57), .int (3)])).length) Slot.unset).toArray = ls at hl ⊢
  have hl : lv_has ls 3 [(0, .ref (ad 57)), (1, .int (3))] := hl
  refine W_abs (fun Q hQ => ?_)
  generalize ([.ref (ad 57), .int (3)] : List Value).toArray = args at hT hQ ⊢
  have hz1 := hTx.2.1
  refine lv_aload_n hx hb (fk_get fk_cX9_readAll_0 0 rfl) rfl (lv_at hl 0 rfl) ?_
  refine lv_iload_n hx hb (fk_get fk_cX9_readAll_0 1 rfl) rfl (lv_at hl 1 rfl) ?_
  have hFc := va_self hD hS hA
  refine va_calli (va_runV (As := [.int (3)]) (rest := []) ⟨hx, hb, hml, hown, hT⟩ (c_x9_one3E l G ad S s.heap.size (z) (pz) (c) (τ) (by first | assumption | omega) (by first | assumption | omega) (by first | assumption | omega) (by first | assumption | omega) (by first | assumption | omega) (hX)) (tV 1 hT m3_64 m3_66 mp_8 m1_12 m3_67 rfl rfl (by decide +kernel) ⟨Nat.le_of_ble_eq_true rfl, Nat.le_of_ble_eq_true rfl⟩) ⟨PcE_blind, va_recv hK hP (ci := 11) (q0 := 57) rfl (ix_at (lt71 (by omega)) (cX_text G ad S)), PcE_of hP hK hD hE hS (fun q h => hFc q h) _⟩ rfl rfl hl.1 rfl (lv_room (Nat.le_of_ble_eq_true rfl)) (fk_get fk_cX9_readAll_0 2 rfl) ⟨Nat.zero_le _, Nat.zero_le _⟩) hS (fun q _ h => hFc q h) hFc (fun r_1 S_3 t_ H locs ht_ hvm_ hw_2 hB_ hz_ hk_ hS => ?_)
  obtain ⟨hP, -, hD1_⟩ := hB_
  rw [ht_] at hP
  have hD : va_D A (wX G ad S_3) := hD1_.weaken (fun k q _ h => hFc q.1 h)
  try dsimp only at hw_2
  obtain ⟨hX_4, hF_5_, hw_2⟩ := hw_2
  have hF_5 : Fr (fun j k => (j = 57 ∧ (k = 2 ∨ k = 7 ∨ k = 8)) ∨ ((j = 59 ∨ j = 60) ∧ k = 99)) S S_3 := Fr.trans (Fr.rf : Fr (fun j k => (j = 57 ∧ (k = 2 ∨ k = 7 ∨ k = 8)) ∨ ((j = 59 ∨ j = 60) ∧ k = 99)) S S) (Fr.mono hF_5_ (fun j k h => by omega))
  have hK2 := hw_2
  have hf2 := hF_5_
  have hT2 := hTx.fr hF_5_ (fun q => by omega) (fun q => by omega)
  refine lv_if_ne (tgt := 10) hx hb (fk_get fk_cX9_readAll_0 3 rfl) (by decide) (fun c_6 => ?_) (fun c_6 => ?_)
  · obtain ⟨L2, e2, hp2, hC2⟩ := rd_y hK2 c_6
    obtain ⟨g1, g2, g3⟩ := hTx.one 1 pz hpz
    have g4 := g3 L2 e2
    refine lv_iconst (v := 0) hx hb (fk_get fk_cX9_readAll_0 6 rfl) (by decide) ?_
    refine lv_istore_n (lv' := [(2, .int (0)), (0, .ref (ad 57)), (1, .int (3))]) hx hb (fk_get fk_cX9_readAll_0 7 rfl) rfl hl (by decide) rfl (fun ls hl => ?_)
    have lp_7 : ∀ (fu : Nat) (k q : Nat) (L : Cds) (SL12 : FS) (H_9 : Heap) (locs_10 : List Loc) (ls : Array Slot),  (XI SL12) → (Fr (fun j k => (j = 57 ∧ (k = 2 ∨ k = 7 ∨ k = 8)) ∨ ((j = 59 ∨ j = 60) ∧ k = 99)) S SL12) → (k ≤ 100) → (100 < k + fu) → (TXz SL12 z τ) → (fF SL12 57 2 = nI q) → (q ≤ z) → (pz + L.length + 1 ≤ q) → (CdP S SL12 c L) → (seqP (oneP cdA τ 1) cdA.2.2.1 38 τ (100 - k) L q = allP cdA (oneP cdA τ 1) τ pz) → va_P G.1 vwCl (wX G ad SL12) H_9 → va_D A (wX G ad SL12) → va_S A s.heap H_9 locs_10 → lv_has ls 3 [(2, .int ((nI k))), (0, .ref (ad 57)), (1, .int (3))] → W p l e ({ frames := 11, cells := 0, slots := 0, locals := 304 } : Room) s m args below meth c₀ H_9 locs_10 0 0 Q (F0 m 12 ls []) := by
      intro fu
      induction fu with
      | zero =>
        intro k q L SL12 H_9 locs_10 ls hXl12 hFl12 hk hf hTl hql hqz hLq hCl hQ2 hP hD hS hl
        exact absurd hf (by omega)
      | succ fu ih =>
        intro k q L SL12 H_9 locs_10 ls hXl12 hFl12 hk hf hTl hql hqz hLq hCl hQ2 hP hD hS hl
        refine lv_iload_n hx hb (fk_get fk_cX9_readAll_0 8 rfl) rfl (lv_at hl 0 rfl) ?_
        refine lv_bipush (v := 100) hx hb (fk_get fk_cX9_readAll_0 9 rfl) (by decide) ?_
        refine lv_icmp_ge (tgt := 53) hx hb (fk_get fk_cX9_readAll_0 10 rfl) (by decide) (fun c_11 => ?_) (fun c_11 => ?_)
        · have q_c_11 : 100 ≤ k := ci_le (a := 100) (b := k) (by omega) (by omega) c_11
          refine lv_iconst (v := 1) hx hb (fk_get fk_cX9_readAll_0 28 rfl) (by decide) ?_
          subst hQ
          have hpost : XI SL12 ∧ Fr (fun j k => (j = 57 ∧ (k = 2 ∨ k = 7 ∨ k = 8)) ∨ ((j = 59 ∨ j = 60) ∧ k = 99)) S SL12 ∧ RdP (allP cdA (oneP cdA τ 1) τ pz) c (1 : Int32) S SL12 := by
            exact ⟨hXl12, hFl12, by first | exact rd_0 (thn_n e2) hp2 | exact rd_1 (hQ2.symm.trans (seq_no n21 _)) hp21 (hCl.keep hf21 (fun q => by omega) (fun q => by omega) (fun q => by omega)) | exact rd_1 (hQ2.symm.trans (by rw [show 100 - k = 0 by omega]; rfl)) hql hCl | exact rd_0 (hQ2.symm.trans ((seq_s (by omega) h21).trans (thn_n e29))) hp29⟩
          exact W.zret (v := 1) hx hb hr rfl (fun t_ ht_ hW_ => ⟨⟨1, SL12, rfl, hpost, by rw [ht_]; exact hP, va_K.moved hW_.alike hK, hD⟩, hS.F ht_⟩) hS.2.2 (fk_get fk_cX9_readAll_0 29 rfl)
        have q_c_11 : k < 100 := ci_nle (a := 100) (b := k) (by omega) (by omega) c_11
        refine lv_aload_n hx hb (fk_get fk_cX9_readAll_0 11 rfl) rfl (lv_at hl 1 rfl) ?_
        refine lv_bipush (v := 38) hx hb (fk_get fk_cX9_readAll_0 12 rfl) (by decide) ?_
        have hFc := va_self hD hS hA
        refine va_calli (va_runV (As := [.int (38)]) (rest := []) ⟨hx, hb, hml, hown, hT⟩ (c_x9_takesE l G ad SL12 H_9.size (z) (q) (38) (τ) (by first | assumption | omega) (by first | assumption | omega) (by first | assumption | omega) (hXl12)) (tV 1 hT m2_213 m2_215 mp_0 m1_12 m2_216 rfl rfl (by decide +kernel) ⟨Nat.le_of_ble_eq_true rfl, Nat.le_of_ble_eq_true rfl⟩) ⟨PcW_blind, va_recv hK hP (ci := 11) (q0 := 57) rfl (ix_at (lt71 (by omega)) (cX_text G ad SL12)), PcW_of hP hK hD _⟩ rfl rfl hl.1 rfl (lv_room (Nat.le_of_ble_eq_true rfl)) (fk_get fk_cX9_readAll_0 13 rfl) ⟨Nat.zero_le _, Nat.zero_le _⟩) hS (fun q _ h => hFc q h) hFc (fun r_12 S_14 t_ H locs ht_ hvm_ hw_13 hB_ hz_ hk_ hS => ?_)
        obtain ⟨hP, -, hD1_⟩ := hB_
        rw [ht_] at hP
        have hD : va_D A (wX G ad S_14) := hD1_.weaken (fun k q _ h => hFc q.1 h)
        try dsimp only at hw_13
        obtain ⟨hX_15, hF_16_, hw_13⟩ := hw_13
        have hF_16 : Fr (fun j k => (j = 57 ∧ (k = 2 ∨ k = 7 ∨ k = 8)) ∨ ((j = 59 ∨ j = 60) ∧ k = 99)) S S_14 := Fr.trans hFl12 (Fr.mono hF_16_ (fun j k h => by omega))
        have hK21 := hw_13
        have hf21 := hF_16_
        have hT21 := hTl.fr hF_16_ (fun q => by omega) (fun q => by omega)
        have hc21 := (Fr.F hF_16_ (j := 57) (k := 7) (lt71 (by omega)) (fun q => by omega)).trans hCl.1
        refine lv_if_eq (tgt := 53) hx hb (fk_get fk_cX9_readAll_0 14 rfl) (by decide) (fun c_17 => ?_) (fun c_17 => ?_)
        · obtain ⟨n21, hp21⟩ := tk_n hK21 c_17
          refine lv_iconst (v := 1) hx hb (fk_get fk_cX9_readAll_0 28 rfl) (by decide) ?_
          subst hQ
          have hpost : XI S_14 ∧ Fr (fun j k => (j = 57 ∧ (k = 2 ∨ k = 7 ∨ k = 8)) ∨ ((j = 59 ∨ j = 60) ∧ k = 99)) S S_14 ∧ RdP (allP cdA (oneP cdA τ 1) τ pz) c (1 : Int32) S S_14 := by
            exact ⟨hX_15, hF_16, by first | exact rd_0 (thn_n e2) hp2 | exact rd_1 (hQ2.symm.trans (seq_no n21 _)) hp21 (hCl.keep hf21 (fun q => by omega) (fun q => by omega) (fun q => by omega)) | exact rd_1 (hQ2.symm.trans (by rw [show 100 - k = 0 by omega]; rfl)) hql hCl | exact rd_0 (hQ2.symm.trans ((seq_s (by omega) h21).trans (thn_n e29))) hp29⟩
          exact W.zret (v := 1) hx hb hr rfl (fun t_ ht_ hW_ => ⟨⟨1, S_14, rfl, hpost, by rw [ht_]; exact hP, va_K.moved hW_.alike hK, hD⟩, hS.F ht_⟩) hS.2.2 (fk_get fk_cX9_readAll_0 29 rfl)
        obtain ⟨h21, hp21⟩ := tk_y hK21 c_17
        have hz21 := hTx.lt h21 (by decide)
        refine lv_aload_n hx hb (fk_get fk_cX9_readAll_0 15 rfl) rfl (lv_at hl 1 rfl) ?_
        refine lv_iload_n hx hb (fk_get fk_cX9_readAll_0 16 rfl) rfl (lv_at hl 2 rfl) ?_
        have hFc := va_self hD hS hA
        refine va_calli (va_runV (As := [.int (3)]) (rest := []) ⟨hx, hb, hml, hown, hT⟩ (c_x9_one3E l G ad S_14 H.size (z) (q + 1) (c + L.length) (τ) (by first | assumption | omega) (by first | assumption | omega) (by first | assumption | omega) (by first | assumption | omega) (by first | assumption | omega) (hX_15)) (tV 1 hT m3_64 m3_66 mp_8 m1_12 m3_67 rfl rfl (by decide +kernel) ⟨Nat.le_of_ble_eq_true rfl, Nat.le_of_ble_eq_true rfl⟩) ⟨PcE_blind, va_recv hK hP (ci := 11) (q0 := 57) rfl (ix_at (lt71 (by omega)) (cX_text G ad S_14)), PcE_of hP hK hD hE hS (fun q h => hFc q h) _⟩ rfl rfl hl.1 rfl (lv_room (Nat.le_of_ble_eq_true rfl)) (fk_get fk_cX9_readAll_0 17 rfl) ⟨Nat.zero_le _, Nat.zero_le _⟩) hS (fun q _ h => hFc q h) hFc (fun r_18 S_20 t_ H locs ht_ hvm_ hw_19 hB_ hz_ hk_ hS => ?_)
        obtain ⟨hP, -, hD1_⟩ := hB_
        rw [ht_] at hP
        have hD : va_D A (wX G ad S_20) := hD1_.weaken (fun k q _ h => hFc q.1 h)
        try dsimp only at hw_19
        obtain ⟨hX_21, hF_22_, hw_19⟩ := hw_19
        have hF_22 : Fr (fun j k => (j = 57 ∧ (k = 2 ∨ k = 7 ∨ k = 8)) ∨ ((j = 59 ∨ j = 60) ∧ k = 99)) S S_20 := Fr.trans hF_16 (Fr.mono hF_22_ (fun j k h => by omega))
        have hK29 := hw_19
        have hT29 := hT21.fr hF_22_ (fun q => by omega) (fun q => by omega)
        refine lv_if_eq (tgt := 45) hx hb (fk_get fk_cX9_readAll_0 18 rfl) (by decide) (fun c_23 => ?_) (fun c_23 => ?_)
        · obtain ⟨e29, hp29⟩ := rd_n hK29 c_23
          refine lv_iconst (v := 0) hx hb (fk_get fk_cX9_readAll_0 24 rfl) (by decide) ?_
          subst hQ
          have hpost : XI S_20 ∧ Fr (fun j k => (j = 57 ∧ (k = 2 ∨ k = 7 ∨ k = 8)) ∨ ((j = 59 ∨ j = 60) ∧ k = 99)) S S_20 ∧ RdP (allP cdA (oneP cdA τ 1) τ pz) c (0 : Int32) S S_20 := by
            exact ⟨hX_21, hF_22, by first | exact rd_0 (thn_n e2) hp2 | exact rd_1 (hQ2.symm.trans (seq_no n21 _)) hp21 (hCl.keep hf21 (fun q => by omega) (fun q => by omega) (fun q => by omega)) | exact rd_1 (hQ2.symm.trans (by rw [show 100 - k = 0 by omega]; rfl)) hql hCl | exact rd_0 (hQ2.symm.trans ((seq_s (by omega) h21).trans (thn_n e29))) hp29⟩
          exact W.zret (v := 0) hx hb hr rfl (fun t_ ht_ hW_ => ⟨⟨0, S_20, rfl, hpost, by rw [ht_]; exact hP, va_K.moved hW_.alike hK, hD⟩, hS.F ht_⟩) hS.2.2 (fk_get fk_cX9_readAll_0 25 rfl)
        obtain ⟨M, e29, hp29, hC29⟩ := rd_y hK29 c_23
        obtain ⟨g5, g6, g7⟩ := hTx.one 1 (q + 1) (by omega)
        have g8 := g7 M e29
        have hc29 := hC29.1
        refine lv_aload_n hx hb (fk_get fk_cX9_readAll_0 19 rfl) rfl (lv_at hl 1 rfl) ?_
        refine lv_bipush (v := 19) hx hb (fk_get fk_cX9_readAll_0 20 rfl) (by decide) ?_
        refine lv_iconst (v := 0) hx hb (fk_get fk_cX9_readAll_0 21 rfl) (by decide) ?_
        have hFc := va_self hD hS hA
        refine va_calli (va_runV (As := [.int (19), .int (0)]) (rest := []) ⟨hx, hb, hml, hown, hT⟩ (c_x9_putE l G ad S_20 H.size (c + L.length + M.length) (19) (0) (by first | assumption | omega) (by first | assumption | omega) (hX_21)) (tV 2 hT m3_68 m3_70 mp_9 m1_12 m3_71 rfl rfl (by decide +kernel) ⟨Nat.le_of_ble_eq_true rfl, Nat.le_of_ble_eq_true rfl⟩) ⟨PcW_blind, va_recv hK hP (ci := 11) (q0 := 57) rfl (ix_at (lt71 (by omega)) (cX_text G ad S_20)), PcW_of hP hK hD _⟩ rfl rfl hl.1 rfl (lv_room (Nat.le_of_ble_eq_true rfl)) (fk_get fk_cX9_readAll_0 22 rfl) ⟨Nat.zero_le _, Nat.zero_le _⟩) hS (fun q _ h => hFc q h) hFc (fun r_24 S_26 t_ H locs ht_ hvm_ hw_25 hB_ hz_ hk_ hS => ?_)
        obtain ⟨hP, -, hD1_⟩ := hB_
        rw [ht_] at hP
        have hD : va_D A (wX G ad S_26) := hD1_.weaken (fun k q _ h => hFc q.1 h)
        try dsimp only at hw_25
        obtain ⟨hX_27, hF_28_, hw_25⟩ := hw_25
        have hF_28 : Fr (fun j k => (j = 57 ∧ (k = 2 ∨ k = 7 ∨ k = 8)) ∨ ((j = 59 ∨ j = 60) ∧ k = 99)) S S_26 := Fr.trans hF_22 (Fr.mono hF_28_ (fun j k h => by omega))
        obtain ⟨e_, hP39⟩ := hw_25
        subst e_
        have hp39 := (Fr.F hF_28_ (j := 57) (k := 2) (lt71 (by omega)) (fun q => by omega)).trans hp29
        have hT39 := hT29.fr hF_28_ (fun q => by omega) (fun q => by omega)
        refine lv_if_ne (tgt := 47) hx hb (fk_get fk_cX9_readAll_0 23 rfl) (by decide) (fun _ => ?_) (fun c_29 => absurd c_29 ((by decide)))
        refine lv_iinc (v := (nI (k + 1))) (lv' := [(2, .int ((nI (k + 1)))), (0, .ref (ad 57)), (1, .int (3))]) hx hb (fk_get fk_cX9_readAll_0 26 rfl) hl (k := 0) rfl ((nI_1 k)) (by decide) rfl (fun ls hl => ?_)
        refine lv_goto (tgt := 12) hx hb (fk_get fk_cX9_readAll_0 27 rfl) (by decide) ?_
        exact ih (k + 1) (((oneP cdA τ 1) (q + 1)).2) ((cdA.2.2.1 L M)) (S_26) _ _ ls (hX_27) (hF_28) (by omega) (by omega) (hT39) (hp39) (g6) ((by rw [show (cdA.2.2.1 L M).length = L.length + M.length + 1 from op_len L M _]; omega)) (((hCl.keep hf21 (fun q => by omega) (fun q => by omega) (fun q => by omega)).app hC29).put (by rw [List.length_append, ← Nat.add_assoc]; exact hP39)) (((thn_s e29).symm.trans ((seq_s (by omega) h21).symm.trans hQ2))) hP hD hS (lv_sub hl [0, 1, 2] rfl)
    exact lp_7 (101) (0) (((oneP cdA τ 1) pz).2) (L2) (S_3) _ _ ls (hX_4) (hF_5) (by omega) (by omega) (hT2) (hp2) (g2) (g4) (hC2) ((thn_s e2).symm) hP hD hS (lv_sub hl [0, 1, 2] rfl)
  obtain ⟨e2, hp2⟩ := rd_n hK2 (by assumption)
  refine lv_iconst (v := 0) hx hb (fk_get fk_cX9_readAll_0 4 rfl) (by decide) ?_
  subst hQ
  have hpost : XI S_3 ∧ Fr (fun j k => (j = 57 ∧ (k = 2 ∨ k = 7 ∨ k = 8)) ∨ ((j = 59 ∨ j = 60) ∧ k = 99)) S S_3 ∧ RdP (allP cdA (oneP cdA τ 1) τ pz) c (0 : Int32) S S_3 := by
    exact ⟨hX_4, hF_5, by first | exact rd_0 (thn_n e2) hp2 | exact rd_1 (hQ2.symm.trans (seq_no n21 _)) hp21 (hCl.keep hf21 (fun q => by omega) (fun q => by omega) (fun q => by omega)) | exact rd_1 (hQ2.symm.trans (by rw [show 100 - k = 0 by omega]; rfl)) hql hCl | exact rd_0 (hQ2.symm.trans ((seq_s (by omega) h21).trans (thn_n e29))) hp29⟩
  exact W.zret (v := 0) hx hb hr rfl (fun t_ ht_ hW_ => ⟨⟨0, S_3, rfl, hpost, by rw [ht_]; exact hP, va_K.moved hW_.alike hK, hD⟩, hS.F ht_⟩) hS.2.2 (fk_get fk_cX9_readAll_0 5 rfl)
set_option maxHeartbeats 800000 in
set_option maxRecDepth 100000 in
theorem c_x9_any3E (l : Launch) (G : GG) (ad : Nat → Nat) (S : FS) (sz : Nat) (z pz c : Nat) (τ : Nat → Int32) (hTx : TXz S z τ) (hp : fF S 57 2 = nI pz) (hpz : pz ≤ z) (hc : fF S 57 7 = nI c) (hcp : c ≤ pz) (hX : XI S) : Met l yX9_readAny (Cond.code yX9_readAny cX9_readAny 3 (some .boolean) :: TBL) ({ frames := 12, cells := 0, slots := 0, locals := 330 } : Room) (PcE G (wX G ad S) sz [.ref (ad 57), .int (3)]) (va_Qi (fun (r : Int32) (S' : FS) => XI S' ∧ Fr (fun j k => (j = 57 ∧ (k = 2 ∨ k = 7 ∨ k = 8)) ∨ ((j = 59 ∨ j = 60) ∧ k = 99)) S S' ∧ RdP (anyP cdA (oneP cdA τ 1) τ pz) c r S S') (fun S' t => BW G (va_A (wX G ad S) sz) (wX G ad S') t) (va_A (wX G ad S) sz)) 0 0 (va_A (wX G ad S) sz) := by
  refine Met.ofW (cc := cX9_readAny) (maxL := 3) (ret := (some .boolean)) (by decide) rfl ?_
  intro p e s m args below meth c₀ s₁ B hml hv
  obtain ⟨rfl, hsz, hP, hK, hD0, hE⟩ := hv
  have hx := B.exec
  have hb := B.bytes
  have hr := B.returns
  have hT : ∀ w ∈ TBL, w.before ([.ref (ad 57), .int (3)] : List Value).toArray s = true := fun w h => atoms_spec (ws := Cond.code yX9_readAny cX9_readAny 3 (some .boolean) :: TBL) B.pre w (List.mem_cons_of_mem _ h)
  have hown : s.vm.findClass "LittleMore$Text" = some m.cls := findClass_of_methodNamed B.named
  have hlocks := B.notSynchronized
  subst hsz
  have hD := hD0.self (sz := s.heap.size)
  generalize hAe : va_A (wX G ad S) s.heap.size = A at hD hE ⊢
  have hA : ∀ q : Nat, s.heap.size ≤ q → A q := fun q h => by rw [← hAe]; exact Or.inr h
  have hS : va_S A s.heap s.heap [] := va_S.rf
  have hP : va_P G.1 vwCl (wX G ad S) s.heap := hP
  have hl := lv_entry ([.ref (ad 57), .int (3)]) (n := 3) (Nat.le_of_ble_eq_true rfl)
  rw [lg_entry_eq]
  generalize (lg_sl ([.ref (ad 57), .int (3)]) ++ List.replicate (3 - (lg_sl ([.ref (ad 57), .int (3)])).length) Slot.unset).toArray = ls at hl ⊢
  have hl : lv_has ls 3 [(0, .ref (ad 57)), (1, .int (3))] := hl
  refine W_abs (fun Q hQ => ?_)
  generalize ([.ref (ad 57), .int (3)] : List Value).toArray = args at hT hQ ⊢
  have hz1 := hTx.2.1
  refine lv_aload_n hx hb (fk_get fk_cX9_readAny_0 0 rfl) rfl (lv_at hl 0 rfl) ?_
  refine lv_iload_n hx hb (fk_get fk_cX9_readAny_0 1 rfl) rfl (lv_at hl 1 rfl) ?_
  have hFc := va_self hD hS hA
  refine va_calli (va_runV (As := [.int (3)]) (rest := []) ⟨hx, hb, hml, hown, hT⟩ (c_x9_all3E l G ad S s.heap.size (z) (pz) (c) (τ) (by first | assumption | omega) (by first | assumption | omega) (by first | assumption | omega) (by first | assumption | omega) (by first | assumption | omega) (hX)) (tV 1 hT m3_60 m3_62 mp_7 m1_12 m3_63 rfl rfl (by decide +kernel) ⟨Nat.le_of_ble_eq_true rfl, Nat.le_of_ble_eq_true rfl⟩) ⟨PcE_blind, va_recv hK hP (ci := 11) (q0 := 57) rfl (ix_at (lt71 (by omega)) (cX_text G ad S)), PcE_of hP hK hD hE hS (fun q h => hFc q h) _⟩ rfl rfl hl.1 rfl (lv_room (Nat.le_of_ble_eq_true rfl)) (fk_get fk_cX9_readAny_0 2 rfl) ⟨Nat.zero_le _, Nat.zero_le _⟩) hS (fun q _ h => hFc q h) hFc (fun r_1 S_3 t_ H locs ht_ hvm_ hw_2 hB_ hz_ hk_ hS => ?_)
  obtain ⟨hP, -, hD1_⟩ := hB_
  rw [ht_] at hP
  have hD : va_D A (wX G ad S_3) := hD1_.weaken (fun k q _ h => hFc q.1 h)
  try dsimp only at hw_2
  obtain ⟨hX_4, hF_5_, hw_2⟩ := hw_2
  have hF_5 : Fr (fun j k => (j = 57 ∧ (k = 2 ∨ k = 7 ∨ k = 8)) ∨ ((j = 59 ∨ j = 60) ∧ k = 99)) S S_3 := Fr.trans (Fr.rf : Fr (fun j k => (j = 57 ∧ (k = 2 ∨ k = 7 ∨ k = 8)) ∨ ((j = 59 ∨ j = 60) ∧ k = 99)) S S) (Fr.mono hF_5_ (fun j k h => by omega))
  have hK2 := hw_2
  have hf2 := hF_5_
  have hT2 := hTx.fr hF_5_ (fun q => by omega) (fun q => by omega)
  refine lv_if_ne (tgt := 10) hx hb (fk_get fk_cX9_readAny_0 3 rfl) (by decide) (fun c_6 => ?_) (fun c_6 => ?_)
  · obtain ⟨L2, e2, hp2, hC2⟩ := rd_y hK2 c_6
    obtain ⟨g1, g2, g3⟩ := hTx.all 1 pz hpz
    have g4 := g3 L2 e2
    refine lv_iconst (v := 0) hx hb (fk_get fk_cX9_readAny_0 6 rfl) (by decide) ?_
    refine lv_istore_n (lv' := [(2, .int (0)), (0, .ref (ad 57)), (1, .int (3))]) hx hb (fk_get fk_cX9_readAny_0 7 rfl) rfl hl (by decide) rfl (fun ls hl => ?_)
    have lp_7 : ∀ (fu : Nat) (k q : Nat) (L : Cds) (SL12 : FS) (H_9 : Heap) (locs_10 : List Loc) (ls : Array Slot),  (XI SL12) → (Fr (fun j k => (j = 57 ∧ (k = 2 ∨ k = 7 ∨ k = 8)) ∨ ((j = 59 ∨ j = 60) ∧ k = 99)) S SL12) → (k ≤ 100) → (100 < k + fu) → (TXz SL12 z τ) → (fF SL12 57 2 = nI q) → (q ≤ z) → (pz + L.length + 1 ≤ q) → (CdP S SL12 c L) → (seqP (allP cdA (oneP cdA τ 1) τ) cdA.2.2.2 124 τ (100 - k) L q = anyP cdA (oneP cdA τ 1) τ pz) → va_P G.1 vwCl (wX G ad SL12) H_9 → va_D A (wX G ad SL12) → va_S A s.heap H_9 locs_10 → lv_has ls 3 [(2, .int ((nI k))), (0, .ref (ad 57)), (1, .int (3))] → W p l e ({ frames := 12, cells := 0, slots := 0, locals := 330 } : Room) s m args below meth c₀ H_9 locs_10 0 0 Q (F0 m 12 ls []) := by
      intro fu
      induction fu with
      | zero =>
        intro k q L SL12 H_9 locs_10 ls hXl12 hFl12 hk hf hTl hql hqz hLq hCl hQ2 hP hD hS hl
        exact absurd hf (by omega)
      | succ fu ih =>
        intro k q L SL12 H_9 locs_10 ls hXl12 hFl12 hk hf hTl hql hqz hLq hCl hQ2 hP hD hS hl
        refine lv_iload_n hx hb (fk_get fk_cX9_readAny_0 8 rfl) rfl (lv_at hl 0 rfl) ?_
        refine lv_bipush (v := 100) hx hb (fk_get fk_cX9_readAny_0 9 rfl) (by decide) ?_
        refine lv_icmp_ge (tgt := 53) hx hb (fk_get fk_cX9_readAny_0 10 rfl) (by decide) (fun c_11 => ?_) (fun c_11 => ?_)
        · have q_c_11 : 100 ≤ k := ci_le (a := 100) (b := k) (by omega) (by omega) c_11
          refine lv_iconst (v := 1) hx hb (fk_get fk_cX9_readAny_0 28 rfl) (by decide) ?_
          subst hQ
          have hpost : XI SL12 ∧ Fr (fun j k => (j = 57 ∧ (k = 2 ∨ k = 7 ∨ k = 8)) ∨ ((j = 59 ∨ j = 60) ∧ k = 99)) S SL12 ∧ RdP (anyP cdA (oneP cdA τ 1) τ pz) c (1 : Int32) S SL12 := by
            exact ⟨hXl12, hFl12, by first | exact rd_0 (thn_n e2) hp2 | exact rd_1 (hQ2.symm.trans (seq_no n21 _)) hp21 (hCl.keep hf21 (fun q => by omega) (fun q => by omega) (fun q => by omega)) | exact rd_1 (hQ2.symm.trans (by rw [show 100 - k = 0 by omega]; rfl)) hql hCl | exact rd_0 (hQ2.symm.trans ((seq_s (by omega) h21).trans (thn_n e29))) hp29⟩
          exact W.zret (v := 1) hx hb hr rfl (fun t_ ht_ hW_ => ⟨⟨1, SL12, rfl, hpost, by rw [ht_]; exact hP, va_K.moved hW_.alike hK, hD⟩, hS.F ht_⟩) hS.2.2 (fk_get fk_cX9_readAny_0 29 rfl)
        have q_c_11 : k < 100 := ci_nle (a := 100) (b := k) (by omega) (by omega) c_11
        refine lv_aload_n hx hb (fk_get fk_cX9_readAny_0 11 rfl) rfl (lv_at hl 1 rfl) ?_
        refine lv_bipush (v := 124) hx hb (fk_get fk_cX9_readAny_0 12 rfl) (by decide) ?_
        have hFc := va_self hD hS hA
        refine va_calli (va_runV (As := [.int (124)]) (rest := []) ⟨hx, hb, hml, hown, hT⟩ (c_x9_takesE l G ad SL12 H_9.size (z) (q) (124) (τ) (by first | assumption | omega) (by first | assumption | omega) (by first | assumption | omega) (hXl12)) (tV 1 hT m2_213 m2_215 mp_0 m1_12 m2_216 rfl rfl (by decide +kernel) ⟨Nat.le_of_ble_eq_true rfl, Nat.le_of_ble_eq_true rfl⟩) ⟨PcW_blind, va_recv hK hP (ci := 11) (q0 := 57) rfl (ix_at (lt71 (by omega)) (cX_text G ad SL12)), PcW_of hP hK hD _⟩ rfl rfl hl.1 rfl (lv_room (Nat.le_of_ble_eq_true rfl)) (fk_get fk_cX9_readAny_0 13 rfl) ⟨Nat.zero_le _, Nat.zero_le _⟩) hS (fun q _ h => hFc q h) hFc (fun r_12 S_14 t_ H locs ht_ hvm_ hw_13 hB_ hz_ hk_ hS => ?_)
        obtain ⟨hP, -, hD1_⟩ := hB_
        rw [ht_] at hP
        have hD : va_D A (wX G ad S_14) := hD1_.weaken (fun k q _ h => hFc q.1 h)
        try dsimp only at hw_13
        obtain ⟨hX_15, hF_16_, hw_13⟩ := hw_13
        have hF_16 : Fr (fun j k => (j = 57 ∧ (k = 2 ∨ k = 7 ∨ k = 8)) ∨ ((j = 59 ∨ j = 60) ∧ k = 99)) S S_14 := Fr.trans hFl12 (Fr.mono hF_16_ (fun j k h => by omega))
        have hK21 := hw_13
        have hf21 := hF_16_
        have hT21 := hTl.fr hF_16_ (fun q => by omega) (fun q => by omega)
        have hc21 := (Fr.F hF_16_ (j := 57) (k := 7) (lt71 (by omega)) (fun q => by omega)).trans hCl.1
        refine lv_if_eq (tgt := 53) hx hb (fk_get fk_cX9_readAny_0 14 rfl) (by decide) (fun c_17 => ?_) (fun c_17 => ?_)
        · obtain ⟨n21, hp21⟩ := tk_n hK21 c_17
          refine lv_iconst (v := 1) hx hb (fk_get fk_cX9_readAny_0 28 rfl) (by decide) ?_
          subst hQ
          have hpost : XI S_14 ∧ Fr (fun j k => (j = 57 ∧ (k = 2 ∨ k = 7 ∨ k = 8)) ∨ ((j = 59 ∨ j = 60) ∧ k = 99)) S S_14 ∧ RdP (anyP cdA (oneP cdA τ 1) τ pz) c (1 : Int32) S S_14 := by
            exact ⟨hX_15, hF_16, by first | exact rd_0 (thn_n e2) hp2 | exact rd_1 (hQ2.symm.trans (seq_no n21 _)) hp21 (hCl.keep hf21 (fun q => by omega) (fun q => by omega) (fun q => by omega)) | exact rd_1 (hQ2.symm.trans (by rw [show 100 - k = 0 by omega]; rfl)) hql hCl | exact rd_0 (hQ2.symm.trans ((seq_s (by omega) h21).trans (thn_n e29))) hp29⟩
          exact W.zret (v := 1) hx hb hr rfl (fun t_ ht_ hW_ => ⟨⟨1, S_14, rfl, hpost, by rw [ht_]; exact hP, va_K.moved hW_.alike hK, hD⟩, hS.F ht_⟩) hS.2.2 (fk_get fk_cX9_readAny_0 29 rfl)
        obtain ⟨h21, hp21⟩ := tk_y hK21 c_17
        have hz21 := hTx.lt h21 (by decide)
        refine lv_aload_n hx hb (fk_get fk_cX9_readAny_0 15 rfl) rfl (lv_at hl 1 rfl) ?_
        refine lv_iload_n hx hb (fk_get fk_cX9_readAny_0 16 rfl) rfl (lv_at hl 2 rfl) ?_
        have hFc := va_self hD hS hA
        refine va_calli (va_runV (As := [.int (3)]) (rest := []) ⟨hx, hb, hml, hown, hT⟩ (c_x9_all3E l G ad S_14 H.size (z) (q + 1) (c + L.length) (τ) (by first | assumption | omega) (by first | assumption | omega) (by first | assumption | omega) (by first | assumption | omega) (by first | assumption | omega) (hX_15)) (tV 1 hT m3_60 m3_62 mp_7 m1_12 m3_63 rfl rfl (by decide +kernel) ⟨Nat.le_of_ble_eq_true rfl, Nat.le_of_ble_eq_true rfl⟩) ⟨PcE_blind, va_recv hK hP (ci := 11) (q0 := 57) rfl (ix_at (lt71 (by omega)) (cX_text G ad S_14)), PcE_of hP hK hD hE hS (fun q h => hFc q h) _⟩ rfl rfl hl.1 rfl (lv_room (Nat.le_of_ble_eq_true rfl)) (fk_get fk_cX9_readAny_0 17 rfl) ⟨Nat.zero_le _, Nat.zero_le _⟩) hS (fun q _ h => hFc q h) hFc (fun r_18 S_20 t_ H locs ht_ hvm_ hw_19 hB_ hz_ hk_ hS => ?_)
        obtain ⟨hP, -, hD1_⟩ := hB_
        rw [ht_] at hP
        have hD : va_D A (wX G ad S_20) := hD1_.weaken (fun k q _ h => hFc q.1 h)
        try dsimp only at hw_19
        obtain ⟨hX_21, hF_22_, hw_19⟩ := hw_19
        have hF_22 : Fr (fun j k => (j = 57 ∧ (k = 2 ∨ k = 7 ∨ k = 8)) ∨ ((j = 59 ∨ j = 60) ∧ k = 99)) S S_20 := Fr.trans hF_16 (Fr.mono hF_22_ (fun j k h => by omega))
        have hK29 := hw_19
        have hT29 := hT21.fr hF_22_ (fun q => by omega) (fun q => by omega)
        refine lv_if_eq (tgt := 45) hx hb (fk_get fk_cX9_readAny_0 18 rfl) (by decide) (fun c_23 => ?_) (fun c_23 => ?_)
        · obtain ⟨e29, hp29⟩ := rd_n hK29 c_23
          refine lv_iconst (v := 0) hx hb (fk_get fk_cX9_readAny_0 24 rfl) (by decide) ?_
          subst hQ
          have hpost : XI S_20 ∧ Fr (fun j k => (j = 57 ∧ (k = 2 ∨ k = 7 ∨ k = 8)) ∨ ((j = 59 ∨ j = 60) ∧ k = 99)) S S_20 ∧ RdP (anyP cdA (oneP cdA τ 1) τ pz) c (0 : Int32) S S_20 := by
            exact ⟨hX_21, hF_22, by first | exact rd_0 (thn_n e2) hp2 | exact rd_1 (hQ2.symm.trans (seq_no n21 _)) hp21 (hCl.keep hf21 (fun q => by omega) (fun q => by omega) (fun q => by omega)) | exact rd_1 (hQ2.symm.trans (by rw [show 100 - k = 0 by omega]; rfl)) hql hCl | exact rd_0 (hQ2.symm.trans ((seq_s (by omega) h21).trans (thn_n e29))) hp29⟩
          exact W.zret (v := 0) hx hb hr rfl (fun t_ ht_ hW_ => ⟨⟨0, S_20, rfl, hpost, by rw [ht_]; exact hP, va_K.moved hW_.alike hK, hD⟩, hS.F ht_⟩) hS.2.2 (fk_get fk_cX9_readAny_0 25 rfl)
        obtain ⟨M, e29, hp29, hC29⟩ := rd_y hK29 c_23
        obtain ⟨g5, g6, g7⟩ := hTx.all 1 (q + 1) (by omega)
        have g8 := g7 M e29
        have hc29 := hC29.1
        refine lv_aload_n hx hb (fk_get fk_cX9_readAny_0 19 rfl) rfl (lv_at hl 1 rfl) ?_
        refine lv_bipush (v := 20) hx hb (fk_get fk_cX9_readAny_0 20 rfl) (by decide) ?_
        refine lv_iconst (v := 0) hx hb (fk_get fk_cX9_readAny_0 21 rfl) (by decide) ?_
        have hFc := va_self hD hS hA
        refine va_calli (va_runV (As := [.int (20), .int (0)]) (rest := []) ⟨hx, hb, hml, hown, hT⟩ (c_x9_putE l G ad S_20 H.size (c + L.length + M.length) (20) (0) (by first | assumption | omega) (by first | assumption | omega) (hX_21)) (tV 2 hT m3_68 m3_70 mp_9 m1_12 m3_71 rfl rfl (by decide +kernel) ⟨Nat.le_of_ble_eq_true rfl, Nat.le_of_ble_eq_true rfl⟩) ⟨PcW_blind, va_recv hK hP (ci := 11) (q0 := 57) rfl (ix_at (lt71 (by omega)) (cX_text G ad S_20)), PcW_of hP hK hD _⟩ rfl rfl hl.1 rfl (lv_room (Nat.le_of_ble_eq_true rfl)) (fk_get fk_cX9_readAny_0 22 rfl) ⟨Nat.zero_le _, Nat.zero_le _⟩) hS (fun q _ h => hFc q h) hFc (fun r_24 S_26 t_ H locs ht_ hvm_ hw_25 hB_ hz_ hk_ hS => ?_)
        obtain ⟨hP, -, hD1_⟩ := hB_
        rw [ht_] at hP
        have hD : va_D A (wX G ad S_26) := hD1_.weaken (fun k q _ h => hFc q.1 h)
        try dsimp only at hw_25
        obtain ⟨hX_27, hF_28_, hw_25⟩ := hw_25
        have hF_28 : Fr (fun j k => (j = 57 ∧ (k = 2 ∨ k = 7 ∨ k = 8)) ∨ ((j = 59 ∨ j = 60) ∧ k = 99)) S S_26 := Fr.trans hF_22 (Fr.mono hF_28_ (fun j k h => by omega))
        obtain ⟨e_, hP39⟩ := hw_25
        subst e_
        have hp39 := (Fr.F hF_28_ (j := 57) (k := 2) (lt71 (by omega)) (fun q => by omega)).trans hp29
        have hT39 := hT29.fr hF_28_ (fun q => by omega) (fun q => by omega)
        refine lv_if_ne (tgt := 47) hx hb (fk_get fk_cX9_readAny_0 23 rfl) (by decide) (fun _ => ?_) (fun c_29 => absurd c_29 ((by decide)))
        refine lv_iinc (v := (nI (k + 1))) (lv' := [(2, .int ((nI (k + 1)))), (0, .ref (ad 57)), (1, .int (3))]) hx hb (fk_get fk_cX9_readAny_0 26 rfl) hl (k := 0) rfl ((nI_1 k)) (by decide) rfl (fun ls hl => ?_)
        refine lv_goto (tgt := 12) hx hb (fk_get fk_cX9_readAny_0 27 rfl) (by decide) ?_
        exact ih (k + 1) (((allP cdA (oneP cdA τ 1) τ) (q + 1)).2) ((cdA.2.2.2 L M)) (S_26) _ _ ls (hX_27) (hF_28) (by omega) (by omega) (hT39) (hp39) (g6) ((by rw [show (cdA.2.2.2 L M).length = L.length + M.length + 1 from op_len L M _]; omega)) (((hCl.keep hf21 (fun q => by omega) (fun q => by omega) (fun q => by omega)).app hC29).put (by rw [List.length_append, ← Nat.add_assoc]; exact hP39)) (((thn_s e29).symm.trans ((seq_s (by omega) h21).symm.trans hQ2))) hP hD hS (lv_sub hl [0, 1, 2] rfl)
    exact lp_7 (101) (0) (((allP cdA (oneP cdA τ 1) τ) pz).2) (L2) (S_3) _ _ ls (hX_4) (hF_5) (by omega) (by omega) (hT2) (hp2) (g2) (g4) (hC2) ((thn_s e2).symm) hP hD hS (lv_sub hl [0, 1, 2] rfl)
  obtain ⟨e2, hp2⟩ := rd_n hK2 (by assumption)
  refine lv_iconst (v := 0) hx hb (fk_get fk_cX9_readAny_0 4 rfl) (by decide) ?_
  subst hQ
  have hpost : XI S_3 ∧ Fr (fun j k => (j = 57 ∧ (k = 2 ∨ k = 7 ∨ k = 8)) ∨ ((j = 59 ∨ j = 60) ∧ k = 99)) S S_3 ∧ RdP (anyP cdA (oneP cdA τ 1) τ pz) c (0 : Int32) S S_3 := by
    exact ⟨hX_4, hF_5, by first | exact rd_0 (thn_n e2) hp2 | exact rd_1 (hQ2.symm.trans (seq_no n21 _)) hp21 (hCl.keep hf21 (fun q => by omega) (fun q => by omega) (fun q => by omega)) | exact rd_1 (hQ2.symm.trans (by rw [show 100 - k = 0 by omega]; rfl)) hql hCl | exact rd_0 (hQ2.symm.trans ((seq_s (by omega) h21).trans (thn_n e29))) hp29⟩
  exact W.zret (v := 0) hx hb hr rfl (fun t_ ht_ hW_ => ⟨⟨0, S_3, rfl, hpost, by rw [ht_]; exact hP, va_K.moved hW_.alike hK, hD⟩, hS.F ht_⟩) hS.2.2 (fk_get fk_cX9_readAny_0 5 rfl)
set_option maxHeartbeats 800000 in
set_option maxRecDepth 100000 in
theorem c_x9_one2E (l : Launch) (G : GG) (ad : Nat → Nat) (S : FS) (sz : Nat) (z pz c : Nat) (τ : Nat → Int32) (hTx : TXz S z τ) (hp : fF S 57 2 = nI pz) (hpz : pz ≤ z) (hc : fF S 57 7 = nI c) (hcp : c ≤ pz) (hX : XI S) : Met l yX9_readOne (Cond.code yX9_readOne cX9_readOne 4 (some .boolean) :: TBL) ({ frames := 13, cells := 0, slots := 0, locals := 356 } : Room) (PcE G (wX G ad S) sz [.ref (ad 57), .int (2)]) (va_Qi (fun (r : Int32) (S' : FS) => XI S' ∧ Fr (fun j k => (j = 57 ∧ (k = 2 ∨ k = 7 ∨ k = 8)) ∨ ((j = 59 ∨ j = 60) ∧ k = 99)) S S' ∧ RdP (oneP cdA τ 2 pz) c r S S') (fun S' t => BW G (va_A (wX G ad S) sz) (wX G ad S') t) (va_A (wX G ad S) sz)) 0 0 (va_A (wX G ad S) sz) := by
  refine Met.ofW (cc := cX9_readOne) (maxL := 4) (ret := (some .boolean)) (by decide) rfl ?_
  intro p e s m args below meth c₀ s₁ B hml hv
  obtain ⟨rfl, hsz, hP, hK, hD0, hE⟩ := hv
  have hx := B.exec
  have hb := B.bytes
  have hr := B.returns
  have hT : ∀ w ∈ TBL, w.before ([.ref (ad 57), .int (2)] : List Value).toArray s = true := fun w h => atoms_spec (ws := Cond.code yX9_readOne cX9_readOne 4 (some .boolean) :: TBL) B.pre w (List.mem_cons_of_mem _ h)
  have hown : s.vm.findClass "LittleMore$Text" = some m.cls := findClass_of_methodNamed B.named
  have hlocks := B.notSynchronized
  subst hsz
  have hD := hD0.self (sz := s.heap.size)
  generalize hAe : va_A (wX G ad S) s.heap.size = A at hD hE ⊢
  have hA : ∀ q : Nat, s.heap.size ≤ q → A q := fun q h => by rw [← hAe]; exact Or.inr h
  have hS : va_S A s.heap s.heap [] := va_S.rf
  have hP : va_P G.1 vwCl (wX G ad S) s.heap := hP
  have hl := lv_entry ([.ref (ad 57), .int (2)]) (n := 4) (Nat.le_of_ble_eq_true rfl)
  rw [lg_entry_eq]
  generalize (lg_sl ([.ref (ad 57), .int (2)]) ++ List.replicate (4 - (lg_sl ([.ref (ad 57), .int (2)])).length) Slot.unset).toArray = ls at hl ⊢
  have hl : lv_has ls 4 [(0, .ref (ad 57)), (1, .int (2))] := hl
  refine W_abs (fun Q hQ => ?_)
  generalize ([.ref (ad 57), .int (2)] : List Value).toArray = args at hT hQ ⊢
  have hz1 := hTx.2.1
  refine lv_iload_n hx hb (fk_get fk_cX9_readOne_0 0 rfl) rfl (lv_at hl 1 rfl) ?_
  refine lv_iconst (v := 4) hx hb (fk_get fk_cX9_readOne_0 1 rfl) (by decide) ?_
  refine lv_icmp_ge (tgt := 40) hx hb (fk_get fk_cX9_readOne_0 2 rfl) (by decide) (fun c_1 => absurd c_1 ((by decide))) (fun _ => ?_)
  refine lv_aload_n hx hb (fk_get fk_cX9_readOne_0 3 rfl) rfl (lv_at hl 0 rfl) ?_
  refine lv_bipush (v := 33) hx hb (fk_get fk_cX9_readOne_0 4 rfl) (by decide) ?_
  have hFc := va_self hD hS hA
  refine va_calli (va_runV (As := [.int (33)]) (rest := []) ⟨hx, hb, hml, hown, hT⟩ (c_x9_takesE l G ad S s.heap.size (z) (pz) (33) (τ) (by first | assumption | omega) (by first | assumption | omega) (by first | assumption | omega) (hX)) (tV 1 hT m2_213 m2_215 mp_0 m1_12 m2_216 rfl rfl (by decide +kernel) ⟨Nat.le_of_ble_eq_true rfl, Nat.le_of_ble_eq_true rfl⟩) ⟨PcW_blind, va_recv hK hP (ci := 11) (q0 := 57) rfl (ix_at (lt71 (by omega)) (cX_text G ad S)), PcW_of hP hK hD _⟩ rfl rfl hl.1 rfl (lv_room (Nat.le_of_ble_eq_true rfl)) (fk_get fk_cX9_readOne_0 5 rfl) ⟨Nat.zero_le _, Nat.zero_le _⟩) hS (fun q _ h => hFc q h) hFc (fun r_2 S_4 t_ H locs ht_ hvm_ hw_3 hB_ hz_ hk_ hS => ?_)
  obtain ⟨hP, -, hD1_⟩ := hB_
  rw [ht_] at hP
  have hD : va_D A (wX G ad S_4) := hD1_.weaken (fun k q _ h => hFc q.1 h)
  try dsimp only at hw_3
  obtain ⟨hX_5, hF_6_, hw_3⟩ := hw_3
  have hF_6 : Fr (fun j k => (j = 57 ∧ (k = 2 ∨ k = 7 ∨ k = 8)) ∨ ((j = 59 ∨ j = 60) ∧ k = 99)) S S_4 := Fr.trans (Fr.rf : Fr (fun j k => (j = 57 ∧ (k = 2 ∨ k = 7 ∨ k = 8)) ∨ ((j = 59 ∨ j = 60) ∧ k = 99)) S S) (Fr.mono hF_6_ (fun j k h => by omega))
  have hK8 := hw_3
  have hf8 := hF_6_
  have hT8 := hTx.fr hF_6_ (fun q => by omega) (fun q => by omega)
  have hc8 := (Fr.F hF_6_ (j := 57) (k := 7) (lt71 (by omega)) (fun q => by omega)).trans hc
  refine lv_if_eq (tgt := 40) hx hb (fk_get fk_cX9_readOne_0 6 rfl) (by decide) (fun c_7 => ?_) (fun c_7 => ?_)
  · obtain ⟨n33, hp8⟩ := tk_n hK8 c_7
    refine lv_iload_n hx hb (fk_get fk_cX9_readOne_0 22 rfl) rfl (lv_at hl 1 rfl) ?_
    refine lv_iconst (v := 4) hx hb (fk_get fk_cX9_readOne_0 23 rfl) (by decide) ?_
    refine lv_icmp_ge (tgt := 79) hx hb (fk_get fk_cX9_readOne_0 24 rfl) (by decide) (fun c_8 => absurd c_8 ((by decide))) (fun _ => ?_)
    refine lv_aload_n hx hb (fk_get fk_cX9_readOne_0 25 rfl) rfl (lv_at hl 0 rfl) ?_
    refine lv_bipush (v := 40) hx hb (fk_get fk_cX9_readOne_0 26 rfl) (by decide) ?_
    have hFc := va_self hD hS hA
    refine va_calli (va_runV (As := [.int (40)]) (rest := []) ⟨hx, hb, hml, hown, hT⟩ (c_x9_takesE l G ad S_4 H.size (z) (pz) (40) (τ) (by first | assumption | omega) (by first | assumption | omega) (by first | assumption | omega) (hX_5)) (tV 1 hT m2_213 m2_215 mp_0 m1_12 m2_216 rfl rfl (by decide +kernel) ⟨Nat.le_of_ble_eq_true rfl, Nat.le_of_ble_eq_true rfl⟩) ⟨PcW_blind, va_recv hK hP (ci := 11) (q0 := 57) rfl (ix_at (lt71 (by omega)) (cX_text G ad S_4)), PcW_of hP hK hD _⟩ rfl rfl hl.1 rfl (lv_room (Nat.le_of_ble_eq_true rfl)) (fk_get fk_cX9_readOne_0 27 rfl) ⟨Nat.zero_le _, Nat.zero_le _⟩) hS (fun q _ h => hFc q h) hFc (fun r_9 S_11 t_ H locs ht_ hvm_ hw_10 hB_ hz_ hk_ hS => ?_)
    obtain ⟨hP, -, hD1_⟩ := hB_
    rw [ht_] at hP
    have hD : va_D A (wX G ad S_11) := hD1_.weaken (fun k q _ h => hFc q.1 h)
    try dsimp only at hw_10
    obtain ⟨hX_12, hF_13_, hw_10⟩ := hw_10
    have hF_13 : Fr (fun j k => (j = 57 ∧ (k = 2 ∨ k = 7 ∨ k = 8)) ∨ ((j = 59 ∨ j = 60) ∧ k = 99)) S S_11 := Fr.trans hF_6 (Fr.mono hF_13_ (fun j k h => by omega))
    have hK48 := hw_10
    have hf48 := hF_13_
    have hT48 := hT8.fr hF_13_ (fun q => by omega) (fun q => by omega)
    have hc48 := (Fr.F hF_13_ (j := 57) (k := 7) (lt71 (by omega)) (fun q => by omega)).trans hc8
    refine lv_if_eq (tgt := 79) hx hb (fk_get fk_cX9_readOne_0 28 rfl) (by decide) (fun c_14 => ?_) (fun c_14 => ?_)
    · obtain ⟨n40, hp48⟩ := tk_n hK48 c_14
      refine lv_aload_n hx hb (fk_get fk_cX9_readOne_1 11 rfl) rfl (lv_at hl 0 rfl) ?_
      refine va_ldcS (q := G.2.2.2 (310 + 4)) (tx := txS 4) hx hb hown (hE.2.2.2.2.1.2 4 (by omega)) (fk_get fk_cX9_readOne_1 12 rfl) ?_
      have hFc := va_self hD hS hA
      refine va_calli (va_runV (As := [.ref (G.2.2.2 (310 + 4))]) (rest := []) ⟨hx, hb, hml, hown, hT⟩ (c_x9_tooE l G ad S_11 H.size (4) (z) (pz) (τ) ((by omega : 4 < 6)) (by first | assumption | omega) (by first | assumption | omega) (by first | assumption | omega) (hX_12)) (tV 1 hT m3_73 m3_75 mp_10 m1_12 m3_76 rfl rfl (by decide +kernel) ⟨Nat.le_of_ble_eq_true rfl, Nat.le_of_ble_eq_true rfl⟩) ⟨PcE_blind, va_recv hK hP (ci := 11) (q0 := 57) rfl (ix_at (lt71 (by omega)) (cX_text G ad S_11)), PcE_of hP hK hD hE hS (fun q h => hFc q h) _⟩ rfl rfl hl.1 rfl (lv_room (Nat.le_of_ble_eq_true rfl)) (fk_get fk_cX9_readOne_1 13 rfl) ⟨Nat.zero_le _, Nat.zero_le _⟩) hS (fun q _ h => hFc q h) hFc (fun r_15 S_17 t_ H locs ht_ hvm_ hw_16 hB_ hz_ hk_ hS => ?_)
      obtain ⟨hP, -, hD1_⟩ := hB_
      rw [ht_] at hP
      have hD : va_D A (wX G ad S_17) := hD1_.weaken (fun k q _ h => hFc q.1 h)
      try dsimp only at hw_16
      obtain ⟨hX_18, hF_19_, hw_16⟩ := hw_16
      have hF_19 : Fr (fun j k => (j = 57 ∧ (k = 2 ∨ k = 7 ∨ k = 8)) ∨ ((j = 59 ∨ j = 60) ∧ k = 99)) S S_17 := Fr.trans hF_13 (Fr.mono hF_19_ (fun j k h => by omega))
      have hK82 := hw_16
      have hf82 := hF_19_
      have hT82 := hT48.fr hF_19_ (fun q => by omega) (fun q => by omega)
      have hc82 := (Fr.F hF_19_ (j := 57) (k := 7) (lt71 (by omega)) (fun q => by omega)).trans hc48
      have hl82 := hK82.1.1 rfl
      subst hl82
      refine lv_istore_n (lv' := [(2, .int ((lix (τ pz)))), (0, .ref (ad 57)), (1, .int (2))]) hx hb (fk_get fk_cX9_readOne_1 14 rfl) rfl hl (by decide) rfl (fun ls hl => ?_)
      refine lv_iload_n hx hb (fk_get fk_cX9_readOne_1 15 rfl) rfl (lv_at hl 0 rfl) ?_
      refine lv_if_ge (tgt := 94) hx hb (fk_get fk_cX9_readOne_1 16 rfl) (by decide) (fun c_20 => ?_) (fun c_20 => ?_)
      · have hn82 : ¬ lix (τ pz) < 0 := Int32.not_lt.mpr c_20
        have hz82 := hTx.lt rfl (lix_ne hn82)
        have hp82 := (hK82.2.resolve_left (fun q => hn82 q.1)).2
        refine lv_aload_n hx hb (fk_get fk_cX9_readOne_1 19 rfl) rfl (lv_at hl 1 rfl) ?_
        refine va_ldcS (q := G.2.2.2 (310 + 5)) (tx := txS 5) hx hb hown (hE.2.2.2.2.1.2 5 (by omega)) (fk_get fk_cX9_readOne_1 20 rfl) ?_
        have hFc := va_self hD hS hA
        refine va_calli (va_runV (As := [.ref (G.2.2.2 (310 + 5))]) (rest := []) ⟨hx, hb, hml, hown, hT⟩ (c_x9_tooE l G ad S_17 H.size (5) (z) (pz + 1) (τ) ((by omega : 5 < 6)) (by first | assumption | omega) (by first | assumption | omega) (by first | assumption | omega) (hX_18)) (tV 1 hT m3_73 m3_75 mp_10 m1_12 m3_76 rfl rfl (by decide +kernel) ⟨Nat.le_of_ble_eq_true rfl, Nat.le_of_ble_eq_true rfl⟩) ⟨PcE_blind, va_recv hK hP (ci := 11) (q0 := 57) rfl (ix_at (lt71 (by omega)) (cX_text G ad S_17)), PcE_of hP hK hD hE hS (fun q h => hFc q h) _⟩ rfl rfl hl.1 rfl (lv_room (Nat.le_of_ble_eq_true rfl)) (fk_get fk_cX9_readOne_1 21 rfl) ⟨Nat.zero_le _, Nat.zero_le _⟩) hS (fun q _ h => hFc q h) hFc (fun r_21 S_23 t_ H locs ht_ hvm_ hw_22 hB_ hz_ hk_ hS => ?_)
        obtain ⟨hP, -, hD1_⟩ := hB_
        rw [ht_] at hP
        have hD : va_D A (wX G ad S_23) := hD1_.weaken (fun k q _ h => hFc q.1 h)
        try dsimp only at hw_22
        obtain ⟨hX_24, hF_25_, hw_22⟩ := hw_22
        have hF_25 : Fr (fun j k => (j = 57 ∧ (k = 2 ∨ k = 7 ∨ k = 8)) ∨ ((j = 59 ∨ j = 60) ∧ k = 99)) S S_23 := Fr.trans hF_19 (Fr.mono hF_25_ (fun j k h => by omega))
        have hK97 := hw_22
        have hf97 := hF_25_
        have hT97 := hT82.fr hF_25_ (fun q => by omega) (fun q => by omega)
        have hc97 := (Fr.F hF_25_ (j := 57) (k := 7) (lt71 (by omega)) (fun q => by omega)).trans hc82
        have hl97 := hK97.1.2 rfl
        subst hl97
        refine lv_istore_n (lv' := [(3, .int ((cix (τ (pz + 1))))), (2, .int ((lix (τ pz)))), (0, .ref (ad 57)), (1, .int (2))]) hx hb (fk_get fk_cX9_readOne_1 22 rfl) rfl hl (by decide) rfl (fun ls hl => ?_)
        refine lv_iload_n hx hb (fk_get fk_cX9_readOne_1 23 rfl) rfl (lv_at hl 0 rfl) ?_
        refine lv_if_lt (tgt := 132) hx hb (fk_get fk_cX9_readOne_1 24 rfl) (by decide) (fun c_26 => ?_) (fun c_26 => ?_)
        · try have hn97 : cix (τ (pz + 1)) < 0 := by assumption
          try have hp97 := (hK97.2.resolve_right (fun q => q.1 hn97)).2
          refine lv_iconst (v := 0) hx hb (fk_get fk_cX9_readOne_2 8 rfl) (by decide) ?_
          subst hQ
          have hpost : XI S_23 ∧ Fr (fun j k => (j = 57 ∧ (k = 2 ∨ k = 7 ∨ k = 8)) ∨ ((j = 59 ∨ j = 60) ∧ k = 99)) S S_23 ∧ RdP (oneP cdA τ 2 pz) c (0 : Int32) S S_23 := by
            exact ⟨hX_24, hF_25, by first | exact rd_1 ((one_33 (d := 1) h33).trans (thn_s e18)) hp28 ((hC18.base hf8 (fun q => by omega) (fun q => by omega)).put hP28) | exact rd_0 ((one_33 (d := 1) h33).trans (thn_n e18)) hp18 | exact rd_1 ((one_40 (d := 1) n33 h40).trans ((thn_s e58).trans (if_pos h41))) hp67 (((hC58.base hf48 (fun q => by omega) (fun q => by omega)).base hf8 (fun q => by omega) (fun q => by omega)).keep hf67 (fun q => by omega) (fun q => by omega) (fun q => by omega)) | exact rd_0 ((one_40 (d := 1) n33 h40).trans ((thn_s e58).trans (if_neg n41))) hp67 | exact rd_0 ((one_40 (d := 1) n33 h40).trans (thn_n e58)) hp58 | exact rd_0 ((one_t (d := 1) n33 n40).trans (tst_0 hn82)) hp82 | exact rd_0 ((one_t (d := 1) n33 n40).trans (tst_1 hn82 hn97)) hp97 | exact rd_0 ((one_t (d := 1) n33 n40).trans ((tst_2 hn82 hn97).trans (thn_n e106))) hp106 | exact rd_1 ((one_t (d := 1) n33 n40).trans ((tst_2 hn82 hn97).trans (thn_s e106))) hp122 (((((((CdP.nil hc).keep hf8 (fun q => by omega) (fun q => by omega) (fun q => by omega)).keep hf48 (fun q => by omega) (fun q => by omega) (fun q => by omega)).keep hf82 (fun q => by omega) (fun q => by omega) (fun q => by omega)).keep hf97 (fun q => by omega) (fun q => by omega) (fun q => by omega)).keep hf106 (fun q => by omega) (fun q => by omega) (fun q => by omega)).put hP122)⟩
          exact W.zret (v := 0) hx hb hr rfl (fun t_ ht_ hW_ => ⟨⟨0, S_23, rfl, hpost, by rw [ht_]; exact hP, va_K.moved hW_.alike hK, hD⟩, hS.F ht_⟩) hS.2.2 (fk_get fk_cX9_readOne_2 9 rfl)
        have hn97 : ¬ cix (τ (pz + 1)) < 0 := by first | assumption | exact Int32.not_lt.mpr c_26
        have hz97 := hTx.lt rfl (cix_ne hn97)
        have hp97 : fF S_23 57 2 = nI (pz + 2) := (hK97.2.resolve_left (fun q => hn97 q.1)).2
        refine lv_aload_n hx hb (fk_get fk_cX9_readOne_1 25 rfl) rfl (lv_at hl 2 rfl) ?_
        have hFc := va_self hD hS hA
        refine va_calli (va_runV (As := []) (rest := []) ⟨hx, hb, hml, hown, hT⟩ (c_x9_numE l G ad S_23 H.size (z) (pz + 2) (τ) (by first | assumption | omega) (by first | assumption | omega) (by first | assumption | omega) (hX_24)) (tV 0 hT m3_49 m3_51 mp_5 m1_12 m3_52 rfl rfl (by decide +kernel) ⟨Nat.le_of_ble_eq_true rfl, Nat.le_of_ble_eq_true rfl⟩) ⟨PcW_blind, va_recv hK hP (ci := 11) (q0 := 57) rfl (ix_at (lt71 (by omega)) (cX_text G ad S_23)), PcW_of hP hK hD _⟩ rfl rfl hl.1 rfl (lv_room (Nat.le_of_ble_eq_true rfl)) (fk_get fk_cX9_readOne_1 26 rfl) ⟨Nat.zero_le _, Nat.zero_le _⟩) hS (fun q _ h => hFc q h) hFc (fun r_27 S_29 t_ H locs ht_ hvm_ hw_28 hB_ hz_ hk_ hS => ?_)
        obtain ⟨hP, -, hD1_⟩ := hB_
        rw [ht_] at hP
        have hD : va_D A (wX G ad S_29) := hD1_.weaken (fun k q _ h => hFc q.1 h)
        try dsimp only at hw_28
        obtain ⟨hX_30, hF_31_, hw_28⟩ := hw_28
        have hF_31 : Fr (fun j k => (j = 57 ∧ (k = 2 ∨ k = 7 ∨ k = 8)) ∨ ((j = 59 ∨ j = 60) ∧ k = 99)) S S_29 := Fr.trans hF_25 (Fr.mono hF_31_ (fun j k h => by omega))
        have hK106 := hw_28
        have hf106 := hF_31_
        have hT106 := hT97.fr hF_31_ (fun q => by omega) (fun q => by omega)
        have hc106 := (Fr.F hF_31_ (j := 57) (k := 7) (lt71 (by omega)) (fun q => by omega)).trans hc97
        refine lv_if_eq (tgt := 132) hx hb (fk_get fk_cX9_readOne_1 27 rfl) (by decide) (fun c_32 => ?_) (fun c_32 => ?_)
        · obtain ⟨e106, hp106⟩ := nu_n hK106 c_32
          refine lv_iconst (v := 0) hx hb (fk_get fk_cX9_readOne_2 8 rfl) (by decide) ?_
          subst hQ
          have hpost : XI S_29 ∧ Fr (fun j k => (j = 57 ∧ (k = 2 ∨ k = 7 ∨ k = 8)) ∨ ((j = 59 ∨ j = 60) ∧ k = 99)) S S_29 ∧ RdP (oneP cdA τ 2 pz) c (0 : Int32) S S_29 := by
            exact ⟨hX_30, hF_31, by first | exact rd_1 ((one_33 (d := 1) h33).trans (thn_s e18)) hp28 ((hC18.base hf8 (fun q => by omega) (fun q => by omega)).put hP28) | exact rd_0 ((one_33 (d := 1) h33).trans (thn_n e18)) hp18 | exact rd_1 ((one_40 (d := 1) n33 h40).trans ((thn_s e58).trans (if_pos h41))) hp67 (((hC58.base hf48 (fun q => by omega) (fun q => by omega)).base hf8 (fun q => by omega) (fun q => by omega)).keep hf67 (fun q => by omega) (fun q => by omega) (fun q => by omega)) | exact rd_0 ((one_40 (d := 1) n33 h40).trans ((thn_s e58).trans (if_neg n41))) hp67 | exact rd_0 ((one_40 (d := 1) n33 h40).trans (thn_n e58)) hp58 | exact rd_0 ((one_t (d := 1) n33 n40).trans (tst_0 hn82)) hp82 | exact rd_0 ((one_t (d := 1) n33 n40).trans (tst_1 hn82 hn97)) hp97 | exact rd_0 ((one_t (d := 1) n33 n40).trans ((tst_2 hn82 hn97).trans (thn_n e106))) hp106 | exact rd_1 ((one_t (d := 1) n33 n40).trans ((tst_2 hn82 hn97).trans (thn_s e106))) hp122 (((((((CdP.nil hc).keep hf8 (fun q => by omega) (fun q => by omega) (fun q => by omega)).keep hf48 (fun q => by omega) (fun q => by omega) (fun q => by omega)).keep hf82 (fun q => by omega) (fun q => by omega) (fun q => by omega)).keep hf97 (fun q => by omega) (fun q => by omega) (fun q => by omega)).keep hf106 (fun q => by omega) (fun q => by omega) (fun q => by omega)).put hP122)⟩
          exact W.zret (v := 0) hx hb hr rfl (fun t_ ht_ hW_ => ⟨⟨0, S_29, rfl, hpost, by rw [ht_]; exact hP, va_K.moved hW_.alike hK, hD⟩, hS.F ht_⟩) hS.2.2 (fk_get fk_cX9_readOne_2 9 rfl)
        obtain ⟨v106, e106, hp106, hv106⟩ := nu_y hK106 c_32
        obtain ⟨g1, g2, g3⟩ := hTx.num (p := pz + 2) (by omega)
        have g4 := g3 (by rw [e106]; exact fun q => by cases q)
        refine lv_aload_n hx hb (fk_get fk_cX9_readOne_1 28 rfl) rfl (lv_at hl 2 rfl) ?_
        refine lv_iload_n hx hb (fk_get fk_cX9_readOne_1 29 rfl) rfl (lv_at hl 1 rfl) ?_
        refine lv_iconst (v := 3) hx hb (fk_get fk_cX9_readOne_1 30 rfl) (by decide) ?_
        refine lv_imul hx hb (fk_get fk_cX9_readOne_1 31 rfl) ?_
        refine lv_iload_n hx hb (fk_get fk_cX9_readOne_2 0 rfl) rfl (lv_at hl 0 rfl) ?_
        refine lv_iadd hx hb (fk_get fk_cX9_readOne_2 1 rfl) ?_
        refine lv_aload_n hx hb (fk_get fk_cX9_readOne_2 2 rfl) rfl (lv_at hl 2 rfl) ?_
        refine va_get (D := G.1) (ci := 11) (v := .int (fF S_29 57 8)) (C := RX9) (T := TX9) (N := 9) hx hb hT inX9 hown hK hP 57 (ix_at (lt71 (by omega)) (cX_text G ad S_29)) rfl 8 (by decide) (hT _ m2_17) (fun _ h9 => h9) rfl (fk_get fk_cX9_readOne_2 3 rfl) ?_
        rw [show (fF S_29 57 8) = v106 from hv106]
        have hFc := va_self hD hS hA
        refine va_calli (va_runV (As := [.int ((((lix (τ pz)) * 3) + (cix (τ (pz + 1))))), .int (v106)]) (rest := []) ⟨hx, hb, hml, hown, hT⟩ (c_x9_putE l G ad S_29 H.size (c) ((((lix (τ pz)) * 3) + (cix (τ (pz + 1))))) (v106) (by first | assumption | omega) (by first | assumption | omega) (hX_30)) (tV 2 hT m3_68 m3_70 mp_9 m1_12 m3_71 rfl rfl (by decide +kernel) ⟨Nat.le_of_ble_eq_true rfl, Nat.le_of_ble_eq_true rfl⟩) ⟨PcW_blind, va_recv hK hP (ci := 11) (q0 := 57) rfl (ix_at (lt71 (by omega)) (cX_text G ad S_29)), PcW_of hP hK hD _⟩ rfl rfl hl.1 rfl (lv_room (Nat.le_of_ble_eq_true rfl)) (fk_get fk_cX9_readOne_2 4 rfl) ⟨Nat.zero_le _, Nat.zero_le _⟩) hS (fun q _ h => hFc q h) hFc (fun r_33 S_35 t_ H locs ht_ hvm_ hw_34 hB_ hz_ hk_ hS => ?_)
        obtain ⟨hP, -, hD1_⟩ := hB_
        rw [ht_] at hP
        have hD : va_D A (wX G ad S_35) := hD1_.weaken (fun k q _ h => hFc q.1 h)
        try dsimp only at hw_34
        obtain ⟨hX_36, hF_37_, hw_34⟩ := hw_34
        have hF_37 : Fr (fun j k => (j = 57 ∧ (k = 2 ∨ k = 7 ∨ k = 8)) ∨ ((j = 59 ∨ j = 60) ∧ k = 99)) S S_35 := Fr.trans hF_31 (Fr.mono hF_37_ (fun j k h => by omega))
        obtain ⟨e_, hP122⟩ := hw_34
        subst e_
        have hp122 := (Fr.F hF_37_ (j := 57) (k := 2) (lt71 (by omega)) (fun q => by omega)).trans hp106
        refine lv_if_eq (tgt := 132) hx hb (fk_get fk_cX9_readOne_2 5 rfl) (by decide) (fun c_38 => absurd c_38 ((by decide))) (fun _ => ?_)
        refine lv_iconst (v := 1) hx hb (fk_get fk_cX9_readOne_2 6 rfl) (by decide) ?_
        refine lv_goto (tgt := 133) hx hb (fk_get fk_cX9_readOne_2 7 rfl) (by decide) ?_
        subst hQ
        have hpost : XI S_35 ∧ Fr (fun j k => (j = 57 ∧ (k = 2 ∨ k = 7 ∨ k = 8)) ∨ ((j = 59 ∨ j = 60) ∧ k = 99)) S S_35 ∧ RdP (oneP cdA τ 2 pz) c (1 : Int32) S S_35 := by
          exact ⟨hX_36, hF_37, by first | exact rd_1 ((one_33 (d := 1) h33).trans (thn_s e18)) hp28 ((hC18.base hf8 (fun q => by omega) (fun q => by omega)).put hP28) | exact rd_0 ((one_33 (d := 1) h33).trans (thn_n e18)) hp18 | exact rd_1 ((one_40 (d := 1) n33 h40).trans ((thn_s e58).trans (if_pos h41))) hp67 (((hC58.base hf48 (fun q => by omega) (fun q => by omega)).base hf8 (fun q => by omega) (fun q => by omega)).keep hf67 (fun q => by omega) (fun q => by omega) (fun q => by omega)) | exact rd_0 ((one_40 (d := 1) n33 h40).trans ((thn_s e58).trans (if_neg n41))) hp67 | exact rd_0 ((one_40 (d := 1) n33 h40).trans (thn_n e58)) hp58 | exact rd_0 ((one_t (d := 1) n33 n40).trans (tst_0 hn82)) hp82 | exact rd_0 ((one_t (d := 1) n33 n40).trans (tst_1 hn82 hn97)) hp97 | exact rd_0 ((one_t (d := 1) n33 n40).trans ((tst_2 hn82 hn97).trans (thn_n e106))) hp106 | exact rd_1 ((one_t (d := 1) n33 n40).trans ((tst_2 hn82 hn97).trans (thn_s e106))) hp122 (((((((CdP.nil hc).keep hf8 (fun q => by omega) (fun q => by omega) (fun q => by omega)).keep hf48 (fun q => by omega) (fun q => by omega) (fun q => by omega)).keep hf82 (fun q => by omega) (fun q => by omega) (fun q => by omega)).keep hf97 (fun q => by omega) (fun q => by omega) (fun q => by omega)).keep hf106 (fun q => by omega) (fun q => by omega) (fun q => by omega)).put hP122)⟩
        exact W.zret (v := 1) hx hb hr rfl (fun t_ ht_ hW_ => ⟨⟨1, S_35, rfl, hpost, by rw [ht_]; exact hP, va_K.moved hW_.alike hK, hD⟩, hS.F ht_⟩) hS.2.2 (fk_get fk_cX9_readOne_2 9 rfl)
      have hn82 : lix (τ pz) < 0 := Int32.not_le.mp c_20
      have hp82 := (hK82.2.resolve_right (fun q => q.1 hn82)).2
      refine lv_iload_n hx hb (fk_get fk_cX9_readOne_1 17 rfl) rfl (lv_at hl 0 rfl) ?_
      refine lv_goto (tgt := 100) hx hb (fk_get fk_cX9_readOne_1 18 rfl) (by decide) ?_
      refine lv_istore_n (lv' := [(3, .int ((lix (τ pz)))), (2, .int ((lix (τ pz)))), (0, .ref (ad 57)), (1, .int (2))]) hx hb (fk_get fk_cX9_readOne_1 22 rfl) rfl hl (by decide) rfl (fun ls hl => ?_)
      refine lv_iload_n hx hb (fk_get fk_cX9_readOne_1 23 rfl) rfl (lv_at hl 0 rfl) ?_
      refine lv_if_lt (tgt := 132) hx hb (fk_get fk_cX9_readOne_1 24 rfl) (by decide) (fun _ => ?_) (fun c_39 => absurd (by first | assumption | exact Int32.not_lt.mp (by assumption) | exact Int32.not_le.mp (by assumption) | exact Int32.not_lt.mpr (by assumption) | exact Int32.not_le.mpr (by assumption) ) c_39)
      try have hn97 : cix (τ (pz + 1)) < 0 := by assumption
      try have hp97 := (hK97.2.resolve_right (fun q => q.1 hn97)).2
      refine lv_iconst (v := 0) hx hb (fk_get fk_cX9_readOne_2 8 rfl) (by decide) ?_
      subst hQ
      have hpost : XI S_17 ∧ Fr (fun j k => (j = 57 ∧ (k = 2 ∨ k = 7 ∨ k = 8)) ∨ ((j = 59 ∨ j = 60) ∧ k = 99)) S S_17 ∧ RdP (oneP cdA τ 2 pz) c (0 : Int32) S S_17 := by
        exact ⟨hX_18, hF_19, by first | exact rd_1 ((one_33 (d := 1) h33).trans (thn_s e18)) hp28 ((hC18.base hf8 (fun q => by omega) (fun q => by omega)).put hP28) | exact rd_0 ((one_33 (d := 1) h33).trans (thn_n e18)) hp18 | exact rd_1 ((one_40 (d := 1) n33 h40).trans ((thn_s e58).trans (if_pos h41))) hp67 (((hC58.base hf48 (fun q => by omega) (fun q => by omega)).base hf8 (fun q => by omega) (fun q => by omega)).keep hf67 (fun q => by omega) (fun q => by omega) (fun q => by omega)) | exact rd_0 ((one_40 (d := 1) n33 h40).trans ((thn_s e58).trans (if_neg n41))) hp67 | exact rd_0 ((one_40 (d := 1) n33 h40).trans (thn_n e58)) hp58 | exact rd_0 ((one_t (d := 1) n33 n40).trans (tst_0 hn82)) hp82 | exact rd_0 ((one_t (d := 1) n33 n40).trans (tst_1 hn82 hn97)) hp97 | exact rd_0 ((one_t (d := 1) n33 n40).trans ((tst_2 hn82 hn97).trans (thn_n e106))) hp106 | exact rd_1 ((one_t (d := 1) n33 n40).trans ((tst_2 hn82 hn97).trans (thn_s e106))) hp122 (((((((CdP.nil hc).keep hf8 (fun q => by omega) (fun q => by omega) (fun q => by omega)).keep hf48 (fun q => by omega) (fun q => by omega) (fun q => by omega)).keep hf82 (fun q => by omega) (fun q => by omega) (fun q => by omega)).keep hf97 (fun q => by omega) (fun q => by omega) (fun q => by omega)).keep hf106 (fun q => by omega) (fun q => by omega) (fun q => by omega)).put hP122)⟩
      exact W.zret (v := 0) hx hb hr rfl (fun t_ ht_ hW_ => ⟨⟨0, S_17, rfl, hpost, by rw [ht_]; exact hP, va_K.moved hW_.alike hK, hD⟩, hS.F ht_⟩) hS.2.2 (fk_get fk_cX9_readOne_2 9 rfl)
    obtain ⟨h40, hp48⟩ := tk_y hK48 c_14
    have hz40 := hTx.lt h40 (by decide)
    refine lv_aload_n hx hb (fk_get fk_cX9_readOne_0 29 rfl) rfl (lv_at hl 0 rfl) ?_
    refine lv_iload_n hx hb (fk_get fk_cX9_readOne_0 30 rfl) rfl (lv_at hl 1 rfl) ?_
    refine lv_iconst (v := 1) hx hb (fk_get fk_cX9_readOne_0 31 rfl) (by decide) ?_
    refine lv_iadd hx hb (fk_get fk_cX9_readOne_1 0 rfl) ?_
    rw [show ((2 + 1) : Int32) = 3 from by decide]
    have hFc := va_self hD hS hA
    refine va_calli (va_runV (As := [.int (3)]) (rest := []) ⟨hx, hb, hml, hown, hT⟩ (c_x9_any3E l G ad S_11 H.size (z) (pz + 1) (c) (τ) (by first | assumption | omega) (by first | assumption | omega) (by first | assumption | omega) (by first | assumption | omega) (by first | assumption | omega) (hX_12)) (tV 1 hT m3_56 m3_58 mp_6 m1_12 m3_59 rfl rfl (by decide +kernel) ⟨Nat.le_of_ble_eq_true rfl, Nat.le_of_ble_eq_true rfl⟩) ⟨PcE_blind, va_recv hK hP (ci := 11) (q0 := 57) rfl (ix_at (lt71 (by omega)) (cX_text G ad S_11)), PcE_of hP hK hD hE hS (fun q h => hFc q h) _⟩ rfl rfl hl.1 rfl (lv_room (Nat.le_of_ble_eq_true rfl)) (fk_get fk_cX9_readOne_1 1 rfl) ⟨Nat.zero_le _, Nat.zero_le _⟩) hS (fun q _ h => hFc q h) hFc (fun r_40 S_42 t_ H locs ht_ hvm_ hw_41 hB_ hz_ hk_ hS => ?_)
    obtain ⟨hP, -, hD1_⟩ := hB_
    rw [ht_] at hP
    have hD : va_D A (wX G ad S_42) := hD1_.weaken (fun k q _ h => hFc q.1 h)
    try dsimp only at hw_41
    obtain ⟨hX_43, hF_44_, hw_41⟩ := hw_41
    have hF_44 : Fr (fun j k => (j = 57 ∧ (k = 2 ∨ k = 7 ∨ k = 8)) ∨ ((j = 59 ∨ j = 60) ∧ k = 99)) S S_42 := Fr.trans hF_13 (Fr.mono hF_44_ (fun j k h => by omega))
    have hK58 := hw_41
    have hf58 := hF_44_
    have hT58 := hT48.fr hF_44_ (fun q => by omega) (fun q => by omega)
    refine lv_if_eq (tgt := 77) hx hb (fk_get fk_cX9_readOne_1 2 rfl) (by decide) (fun c_45 => ?_) (fun c_45 => ?_)
    · obtain ⟨e58, hp58⟩ := rd_n hK58 c_45
      refine lv_iconst (v := 0) hx hb (fk_get fk_cX9_readOne_1 9 rfl) (by decide) ?_
      subst hQ
      have hpost : XI S_42 ∧ Fr (fun j k => (j = 57 ∧ (k = 2 ∨ k = 7 ∨ k = 8)) ∨ ((j = 59 ∨ j = 60) ∧ k = 99)) S S_42 ∧ RdP (oneP cdA τ 2 pz) c (0 : Int32) S S_42 := by
        exact ⟨hX_43, hF_44, by first | exact rd_1 ((one_33 (d := 1) h33).trans (thn_s e18)) hp28 ((hC18.base hf8 (fun q => by omega) (fun q => by omega)).put hP28) | exact rd_0 ((one_33 (d := 1) h33).trans (thn_n e18)) hp18 | exact rd_1 ((one_40 (d := 1) n33 h40).trans ((thn_s e58).trans (if_pos h41))) hp67 (((hC58.base hf48 (fun q => by omega) (fun q => by omega)).base hf8 (fun q => by omega) (fun q => by omega)).keep hf67 (fun q => by omega) (fun q => by omega) (fun q => by omega)) | exact rd_0 ((one_40 (d := 1) n33 h40).trans ((thn_s e58).trans (if_neg n41))) hp67 | exact rd_0 ((one_40 (d := 1) n33 h40).trans (thn_n e58)) hp58 | exact rd_0 ((one_t (d := 1) n33 n40).trans (tst_0 hn82)) hp82 | exact rd_0 ((one_t (d := 1) n33 n40).trans (tst_1 hn82 hn97)) hp97 | exact rd_0 ((one_t (d := 1) n33 n40).trans ((tst_2 hn82 hn97).trans (thn_n e106))) hp106 | exact rd_1 ((one_t (d := 1) n33 n40).trans ((tst_2 hn82 hn97).trans (thn_s e106))) hp122 (((((((CdP.nil hc).keep hf8 (fun q => by omega) (fun q => by omega) (fun q => by omega)).keep hf48 (fun q => by omega) (fun q => by omega) (fun q => by omega)).keep hf82 (fun q => by omega) (fun q => by omega) (fun q => by omega)).keep hf97 (fun q => by omega) (fun q => by omega) (fun q => by omega)).keep hf106 (fun q => by omega) (fun q => by omega) (fun q => by omega)).put hP122)⟩
      exact W.zret (v := 0) hx hb hr rfl (fun t_ ht_ hW_ => ⟨⟨0, S_42, rfl, hpost, by rw [ht_]; exact hP, va_K.moved hW_.alike hK, hD⟩, hS.F ht_⟩) hS.2.2 (fk_get fk_cX9_readOne_1 10 rfl)
    obtain ⟨L58, e58, hp58, hC58⟩ := rd_y hK58 c_45
    obtain ⟨g1, g2, g3⟩ := hTx.any 1 (pz + 1) (by omega)
    have g4 := g3 L58 e58
    refine lv_aload_n hx hb (fk_get fk_cX9_readOne_1 3 rfl) rfl (lv_at hl 0 rfl) ?_
    refine lv_bipush (v := 41) hx hb (fk_get fk_cX9_readOne_1 4 rfl) (by decide) ?_
    have hFc := va_self hD hS hA
    refine va_calli (va_runV (As := [.int (41)]) (rest := []) ⟨hx, hb, hml, hown, hT⟩ (c_x9_takesE l G ad S_42 H.size (z) ((anyP cdA (oneP cdA τ 1) τ (pz + 1)).2) (41) (τ) (by first | assumption | omega) (by first | assumption | omega) (by first | assumption | omega) (hX_43)) (tV 1 hT m2_213 m2_215 mp_0 m1_12 m2_216 rfl rfl (by decide +kernel) ⟨Nat.le_of_ble_eq_true rfl, Nat.le_of_ble_eq_true rfl⟩) ⟨PcW_blind, va_recv hK hP (ci := 11) (q0 := 57) rfl (ix_at (lt71 (by omega)) (cX_text G ad S_42)), PcW_of hP hK hD _⟩ rfl rfl hl.1 rfl (lv_room (Nat.le_of_ble_eq_true rfl)) (fk_get fk_cX9_readOne_1 5 rfl) ⟨Nat.zero_le _, Nat.zero_le _⟩) hS (fun q _ h => hFc q h) hFc (fun r_46 S_48 t_ H locs ht_ hvm_ hw_47 hB_ hz_ hk_ hS => ?_)
    obtain ⟨hP, -, hD1_⟩ := hB_
    rw [ht_] at hP
    have hD : va_D A (wX G ad S_48) := hD1_.weaken (fun k q _ h => hFc q.1 h)
    try dsimp only at hw_47
    obtain ⟨hX_49, hF_50_, hw_47⟩ := hw_47
    have hF_50 : Fr (fun j k => (j = 57 ∧ (k = 2 ∨ k = 7 ∨ k = 8)) ∨ ((j = 59 ∨ j = 60) ∧ k = 99)) S S_48 := Fr.trans hF_44 (Fr.mono hF_50_ (fun j k h => by omega))
    have hK67 := hw_47
    have hf67 := hF_50_
    refine lv_if_eq (tgt := 77) hx hb (fk_get fk_cX9_readOne_1 6 rfl) (by decide) (fun c_51 => ?_) (fun c_51 => ?_)
    · obtain ⟨n41, hp67⟩ := tk_n hK67 c_51
      refine lv_iconst (v := 0) hx hb (fk_get fk_cX9_readOne_1 9 rfl) (by decide) ?_
      subst hQ
      have hpost : XI S_48 ∧ Fr (fun j k => (j = 57 ∧ (k = 2 ∨ k = 7 ∨ k = 8)) ∨ ((j = 59 ∨ j = 60) ∧ k = 99)) S S_48 ∧ RdP (oneP cdA τ 2 pz) c (0 : Int32) S S_48 := by
        exact ⟨hX_49, hF_50, by first | exact rd_1 ((one_33 (d := 1) h33).trans (thn_s e18)) hp28 ((hC18.base hf8 (fun q => by omega) (fun q => by omega)).put hP28) | exact rd_0 ((one_33 (d := 1) h33).trans (thn_n e18)) hp18 | exact rd_1 ((one_40 (d := 1) n33 h40).trans ((thn_s e58).trans (if_pos h41))) hp67 (((hC58.base hf48 (fun q => by omega) (fun q => by omega)).base hf8 (fun q => by omega) (fun q => by omega)).keep hf67 (fun q => by omega) (fun q => by omega) (fun q => by omega)) | exact rd_0 ((one_40 (d := 1) n33 h40).trans ((thn_s e58).trans (if_neg n41))) hp67 | exact rd_0 ((one_40 (d := 1) n33 h40).trans (thn_n e58)) hp58 | exact rd_0 ((one_t (d := 1) n33 n40).trans (tst_0 hn82)) hp82 | exact rd_0 ((one_t (d := 1) n33 n40).trans (tst_1 hn82 hn97)) hp97 | exact rd_0 ((one_t (d := 1) n33 n40).trans ((tst_2 hn82 hn97).trans (thn_n e106))) hp106 | exact rd_1 ((one_t (d := 1) n33 n40).trans ((tst_2 hn82 hn97).trans (thn_s e106))) hp122 (((((((CdP.nil hc).keep hf8 (fun q => by omega) (fun q => by omega) (fun q => by omega)).keep hf48 (fun q => by omega) (fun q => by omega) (fun q => by omega)).keep hf82 (fun q => by omega) (fun q => by omega) (fun q => by omega)).keep hf97 (fun q => by omega) (fun q => by omega) (fun q => by omega)).keep hf106 (fun q => by omega) (fun q => by omega) (fun q => by omega)).put hP122)⟩
      exact W.zret (v := 0) hx hb hr rfl (fun t_ ht_ hW_ => ⟨⟨0, S_48, rfl, hpost, by rw [ht_]; exact hP, va_K.moved hW_.alike hK, hD⟩, hS.F ht_⟩) hS.2.2 (fk_get fk_cX9_readOne_1 10 rfl)
    obtain ⟨h41, hp67⟩ := tk_y hK67 c_51
    refine lv_iconst (v := 1) hx hb (fk_get fk_cX9_readOne_1 7 rfl) (by decide) ?_
    refine lv_goto (tgt := 78) hx hb (fk_get fk_cX9_readOne_1 8 rfl) (by decide) ?_
    subst hQ
    have hpost : XI S_48 ∧ Fr (fun j k => (j = 57 ∧ (k = 2 ∨ k = 7 ∨ k = 8)) ∨ ((j = 59 ∨ j = 60) ∧ k = 99)) S S_48 ∧ RdP (oneP cdA τ 2 pz) c (1 : Int32) S S_48 := by
      exact ⟨hX_49, hF_50, by first | exact rd_1 ((one_33 (d := 1) h33).trans (thn_s e18)) hp28 ((hC18.base hf8 (fun q => by omega) (fun q => by omega)).put hP28) | exact rd_0 ((one_33 (d := 1) h33).trans (thn_n e18)) hp18 | exact rd_1 ((one_40 (d := 1) n33 h40).trans ((thn_s e58).trans (if_pos h41))) hp67 (((hC58.base hf48 (fun q => by omega) (fun q => by omega)).base hf8 (fun q => by omega) (fun q => by omega)).keep hf67 (fun q => by omega) (fun q => by omega) (fun q => by omega)) | exact rd_0 ((one_40 (d := 1) n33 h40).trans ((thn_s e58).trans (if_neg n41))) hp67 | exact rd_0 ((one_40 (d := 1) n33 h40).trans (thn_n e58)) hp58 | exact rd_0 ((one_t (d := 1) n33 n40).trans (tst_0 hn82)) hp82 | exact rd_0 ((one_t (d := 1) n33 n40).trans (tst_1 hn82 hn97)) hp97 | exact rd_0 ((one_t (d := 1) n33 n40).trans ((tst_2 hn82 hn97).trans (thn_n e106))) hp106 | exact rd_1 ((one_t (d := 1) n33 n40).trans ((tst_2 hn82 hn97).trans (thn_s e106))) hp122 (((((((CdP.nil hc).keep hf8 (fun q => by omega) (fun q => by omega) (fun q => by omega)).keep hf48 (fun q => by omega) (fun q => by omega) (fun q => by omega)).keep hf82 (fun q => by omega) (fun q => by omega) (fun q => by omega)).keep hf97 (fun q => by omega) (fun q => by omega) (fun q => by omega)).keep hf106 (fun q => by omega) (fun q => by omega) (fun q => by omega)).put hP122)⟩
    exact W.zret (v := 1) hx hb hr rfl (fun t_ ht_ hW_ => ⟨⟨1, S_48, rfl, hpost, by rw [ht_]; exact hP, va_K.moved hW_.alike hK, hD⟩, hS.F ht_⟩) hS.2.2 (fk_get fk_cX9_readOne_1 10 rfl)
  obtain ⟨h33, hp8⟩ := tk_y hK8 c_7
  have hz33 := hTx.lt h33 (by decide)
  refine lv_aload_n hx hb (fk_get fk_cX9_readOne_0 7 rfl) rfl (lv_at hl 0 rfl) ?_
  refine lv_iload_n hx hb (fk_get fk_cX9_readOne_0 8 rfl) rfl (lv_at hl 1 rfl) ?_
  refine lv_iconst (v := 1) hx hb (fk_get fk_cX9_readOne_0 9 rfl) (by decide) ?_
  refine lv_iadd hx hb (fk_get fk_cX9_readOne_0 10 rfl) ?_
  rw [show ((2 + 1) : Int32) = 3 from by decide]
  have hFc := va_self hD hS hA
  refine va_calli (va_runV (As := [.int (3)]) (rest := []) ⟨hx, hb, hml, hown, hT⟩ (c_x9_one3E l G ad S_4 H.size (z) (pz + 1) (c) (τ) (by first | assumption | omega) (by first | assumption | omega) (by first | assumption | omega) (by first | assumption | omega) (by first | assumption | omega) (hX_5)) (tV 1 hT m3_64 m3_66 mp_8 m1_12 m3_67 rfl rfl (by decide +kernel) ⟨Nat.le_of_ble_eq_true rfl, Nat.le_of_ble_eq_true rfl⟩) ⟨PcE_blind, va_recv hK hP (ci := 11) (q0 := 57) rfl (ix_at (lt71 (by omega)) (cX_text G ad S_4)), PcE_of hP hK hD hE hS (fun q h => hFc q h) _⟩ rfl rfl hl.1 rfl (lv_room (Nat.le_of_ble_eq_true rfl)) (fk_get fk_cX9_readOne_0 11 rfl) ⟨Nat.zero_le _, Nat.zero_le _⟩) hS (fun q _ h => hFc q h) hFc (fun r_52 S_54 t_ H locs ht_ hvm_ hw_53 hB_ hz_ hk_ hS => ?_)
  obtain ⟨hP, -, hD1_⟩ := hB_
  rw [ht_] at hP
  have hD : va_D A (wX G ad S_54) := hD1_.weaken (fun k q _ h => hFc q.1 h)
  try dsimp only at hw_53
  obtain ⟨hX_55, hF_56_, hw_53⟩ := hw_53
  have hF_56 : Fr (fun j k => (j = 57 ∧ (k = 2 ∨ k = 7 ∨ k = 8)) ∨ ((j = 59 ∨ j = 60) ∧ k = 99)) S S_54 := Fr.trans hF_6 (Fr.mono hF_56_ (fun j k h => by omega))
  have hK18 := hw_53
  have hf18 := hF_56_
  have hT18 := hT8.fr hF_56_ (fun q => by omega) (fun q => by omega)
  refine lv_if_eq (tgt := 38) hx hb (fk_get fk_cX9_readOne_0 12 rfl) (by decide) (fun c_57 => ?_) (fun c_57 => ?_)
  · obtain ⟨e18, hp18⟩ := rd_n hK18 c_57
    refine lv_iconst (v := 0) hx hb (fk_get fk_cX9_readOne_0 20 rfl) (by decide) ?_
    subst hQ
    have hpost : XI S_54 ∧ Fr (fun j k => (j = 57 ∧ (k = 2 ∨ k = 7 ∨ k = 8)) ∨ ((j = 59 ∨ j = 60) ∧ k = 99)) S S_54 ∧ RdP (oneP cdA τ 2 pz) c (0 : Int32) S S_54 := by
      exact ⟨hX_55, hF_56, by first | exact rd_1 ((one_33 (d := 1) h33).trans (thn_s e18)) hp28 ((hC18.base hf8 (fun q => by omega) (fun q => by omega)).put hP28) | exact rd_0 ((one_33 (d := 1) h33).trans (thn_n e18)) hp18 | exact rd_1 ((one_40 (d := 1) n33 h40).trans ((thn_s e58).trans (if_pos h41))) hp67 (((hC58.base hf48 (fun q => by omega) (fun q => by omega)).base hf8 (fun q => by omega) (fun q => by omega)).keep hf67 (fun q => by omega) (fun q => by omega) (fun q => by omega)) | exact rd_0 ((one_40 (d := 1) n33 h40).trans ((thn_s e58).trans (if_neg n41))) hp67 | exact rd_0 ((one_40 (d := 1) n33 h40).trans (thn_n e58)) hp58 | exact rd_0 ((one_t (d := 1) n33 n40).trans (tst_0 hn82)) hp82 | exact rd_0 ((one_t (d := 1) n33 n40).trans (tst_1 hn82 hn97)) hp97 | exact rd_0 ((one_t (d := 1) n33 n40).trans ((tst_2 hn82 hn97).trans (thn_n e106))) hp106 | exact rd_1 ((one_t (d := 1) n33 n40).trans ((tst_2 hn82 hn97).trans (thn_s e106))) hp122 (((((((CdP.nil hc).keep hf8 (fun q => by omega) (fun q => by omega) (fun q => by omega)).keep hf48 (fun q => by omega) (fun q => by omega) (fun q => by omega)).keep hf82 (fun q => by omega) (fun q => by omega) (fun q => by omega)).keep hf97 (fun q => by omega) (fun q => by omega) (fun q => by omega)).keep hf106 (fun q => by omega) (fun q => by omega) (fun q => by omega)).put hP122)⟩
    exact W.zret (v := 0) hx hb hr rfl (fun t_ ht_ hW_ => ⟨⟨0, S_54, rfl, hpost, by rw [ht_]; exact hP, va_K.moved hW_.alike hK, hD⟩, hS.F ht_⟩) hS.2.2 (fk_get fk_cX9_readOne_0 21 rfl)
  obtain ⟨L18, e18, hp18, hC18⟩ := rd_y hK18 c_57
  obtain ⟨g1, g2, g3⟩ := hTx.one 1 (pz + 1) (by omega)
  have g4 := g3 L18 e18
  have hc18 := hC18.1
  refine lv_aload_n hx hb (fk_get fk_cX9_readOne_0 13 rfl) rfl (lv_at hl 0 rfl) ?_
  refine lv_bipush (v := 18) hx hb (fk_get fk_cX9_readOne_0 14 rfl) (by decide) ?_
  refine lv_iconst (v := 0) hx hb (fk_get fk_cX9_readOne_0 15 rfl) (by decide) ?_
  have hFc := va_self hD hS hA
  refine va_calli (va_runV (As := [.int (18), .int (0)]) (rest := []) ⟨hx, hb, hml, hown, hT⟩ (c_x9_putE l G ad S_54 H.size (c + L18.length) (18) (0) (by first | assumption | omega) (by first | assumption | omega) (hX_55)) (tV 2 hT m3_68 m3_70 mp_9 m1_12 m3_71 rfl rfl (by decide +kernel) ⟨Nat.le_of_ble_eq_true rfl, Nat.le_of_ble_eq_true rfl⟩) ⟨PcW_blind, va_recv hK hP (ci := 11) (q0 := 57) rfl (ix_at (lt71 (by omega)) (cX_text G ad S_54)), PcW_of hP hK hD _⟩ rfl rfl hl.1 rfl (lv_room (Nat.le_of_ble_eq_true rfl)) (fk_get fk_cX9_readOne_0 16 rfl) ⟨Nat.zero_le _, Nat.zero_le _⟩) hS (fun q _ h => hFc q h) hFc (fun r_58 S_60 t_ H locs ht_ hvm_ hw_59 hB_ hz_ hk_ hS => ?_)
  obtain ⟨hP, -, hD1_⟩ := hB_
  rw [ht_] at hP
  have hD : va_D A (wX G ad S_60) := hD1_.weaken (fun k q _ h => hFc q.1 h)
  try dsimp only at hw_59
  obtain ⟨hX_61, hF_62_, hw_59⟩ := hw_59
  have hF_62 : Fr (fun j k => (j = 57 ∧ (k = 2 ∨ k = 7 ∨ k = 8)) ∨ ((j = 59 ∨ j = 60) ∧ k = 99)) S S_60 := Fr.trans hF_56 (Fr.mono hF_62_ (fun j k h => by omega))
  obtain ⟨e_, hP28⟩ := hw_59
  subst e_
  have hp28 := (Fr.F hF_62_ (j := 57) (k := 2) (lt71 (by omega)) (fun q => by omega)).trans hp18
  refine lv_if_eq (tgt := 38) hx hb (fk_get fk_cX9_readOne_0 17 rfl) (by decide) (fun c_63 => absurd c_63 ((by decide))) (fun _ => ?_)
  refine lv_iconst (v := 1) hx hb (fk_get fk_cX9_readOne_0 18 rfl) (by decide) ?_
  refine lv_goto (tgt := 39) hx hb (fk_get fk_cX9_readOne_0 19 rfl) (by decide) ?_
  subst hQ
  have hpost : XI S_60 ∧ Fr (fun j k => (j = 57 ∧ (k = 2 ∨ k = 7 ∨ k = 8)) ∨ ((j = 59 ∨ j = 60) ∧ k = 99)) S S_60 ∧ RdP (oneP cdA τ 2 pz) c (1 : Int32) S S_60 := by
    exact ⟨hX_61, hF_62, by first | exact rd_1 ((one_33 (d := 1) h33).trans (thn_s e18)) hp28 ((hC18.base hf8 (fun q => by omega) (fun q => by omega)).put hP28) | exact rd_0 ((one_33 (d := 1) h33).trans (thn_n e18)) hp18 | exact rd_1 ((one_40 (d := 1) n33 h40).trans ((thn_s e58).trans (if_pos h41))) hp67 (((hC58.base hf48 (fun q => by omega) (fun q => by omega)).base hf8 (fun q => by omega) (fun q => by omega)).keep hf67 (fun q => by omega) (fun q => by omega) (fun q => by omega)) | exact rd_0 ((one_40 (d := 1) n33 h40).trans ((thn_s e58).trans (if_neg n41))) hp67 | exact rd_0 ((one_40 (d := 1) n33 h40).trans (thn_n e58)) hp58 | exact rd_0 ((one_t (d := 1) n33 n40).trans (tst_0 hn82)) hp82 | exact rd_0 ((one_t (d := 1) n33 n40).trans (tst_1 hn82 hn97)) hp97 | exact rd_0 ((one_t (d := 1) n33 n40).trans ((tst_2 hn82 hn97).trans (thn_n e106))) hp106 | exact rd_1 ((one_t (d := 1) n33 n40).trans ((tst_2 hn82 hn97).trans (thn_s e106))) hp122 (((((((CdP.nil hc).keep hf8 (fun q => by omega) (fun q => by omega) (fun q => by omega)).keep hf48 (fun q => by omega) (fun q => by omega) (fun q => by omega)).keep hf82 (fun q => by omega) (fun q => by omega) (fun q => by omega)).keep hf97 (fun q => by omega) (fun q => by omega) (fun q => by omega)).keep hf106 (fun q => by omega) (fun q => by omega) (fun q => by omega)).put hP122)⟩
  exact W.zret (v := 1) hx hb hr rfl (fun t_ ht_ hW_ => ⟨⟨1, S_60, rfl, hpost, by rw [ht_]; exact hP, va_K.moved hW_.alike hK, hD⟩, hS.F ht_⟩) hS.2.2 (fk_get fk_cX9_readOne_0 21 rfl)
set_option maxHeartbeats 800000 in
set_option maxRecDepth 100000 in
theorem c_x9_all2E (l : Launch) (G : GG) (ad : Nat → Nat) (S : FS) (sz : Nat) (z pz c : Nat) (τ : Nat → Int32) (hTx : TXz S z τ) (hp : fF S 57 2 = nI pz) (hpz : pz ≤ z) (hc : fF S 57 7 = nI c) (hcp : c ≤ pz) (hX : XI S) : Met l yX9_readAll (Cond.code yX9_readAll cX9_readAll 3 (some .boolean) :: TBL) ({ frames := 14, cells := 0, slots := 0, locals := 383 } : Room) (PcE G (wX G ad S) sz [.ref (ad 57), .int (2)]) (va_Qi (fun (r : Int32) (S' : FS) => XI S' ∧ Fr (fun j k => (j = 57 ∧ (k = 2 ∨ k = 7 ∨ k = 8)) ∨ ((j = 59 ∨ j = 60) ∧ k = 99)) S S' ∧ RdP (allP cdA (oneP cdA τ 2) τ pz) c r S S') (fun S' t => BW G (va_A (wX G ad S) sz) (wX G ad S') t) (va_A (wX G ad S) sz)) 0 0 (va_A (wX G ad S) sz) := by
  refine Met.ofW (cc := cX9_readAll) (maxL := 3) (ret := (some .boolean)) (by decide) rfl ?_
  intro p e s m args below meth c₀ s₁ B hml hv
  obtain ⟨rfl, hsz, hP, hK, hD0, hE⟩ := hv
  have hx := B.exec
  have hb := B.bytes
  have hr := B.returns
  have hT : ∀ w ∈ TBL, w.before ([.ref (ad 57), .int (2)] : List Value).toArray s = true := fun w h => atoms_spec (ws := Cond.code yX9_readAll cX9_readAll 3 (some .boolean) :: TBL) B.pre w (List.mem_cons_of_mem _ h)
  have hown : s.vm.findClass "LittleMore$Text" = some m.cls := findClass_of_methodNamed B.named
  have hlocks := B.notSynchronized
  subst hsz
  have hD := hD0.self (sz := s.heap.size)
  generalize hAe : va_A (wX G ad S) s.heap.size = A at hD hE ⊢
  have hA : ∀ q : Nat, s.heap.size ≤ q → A q := fun q h => by rw [← hAe]; exact Or.inr h
  have hS : va_S A s.heap s.heap [] := va_S.rf
  have hP : va_P G.1 vwCl (wX G ad S) s.heap := hP
  have hl := lv_entry ([.ref (ad 57), .int (2)]) (n := 3) (Nat.le_of_ble_eq_true rfl)
  rw [lg_entry_eq]
  generalize (lg_sl ([.ref (ad 57), .int (2)]) ++ List.replicate (3 - (lg_sl ([.ref (ad 57), .int (2)])).length) Slot.unset).toArray = ls at hl ⊢
  have hl : lv_has ls 3 [(0, .ref (ad 57)), (1, .int (2))] := hl
  refine W_abs (fun Q hQ => ?_)
  generalize ([.ref (ad 57), .int (2)] : List Value).toArray = args at hT hQ ⊢
  have hz1 := hTx.2.1
  refine lv_aload_n hx hb (fk_get fk_cX9_readAll_0 0 rfl) rfl (lv_at hl 0 rfl) ?_
  refine lv_iload_n hx hb (fk_get fk_cX9_readAll_0 1 rfl) rfl (lv_at hl 1 rfl) ?_
  have hFc := va_self hD hS hA
  refine va_calli (va_runV (As := [.int (2)]) (rest := []) ⟨hx, hb, hml, hown, hT⟩ (c_x9_one2E l G ad S s.heap.size (z) (pz) (c) (τ) (by first | assumption | omega) (by first | assumption | omega) (by first | assumption | omega) (by first | assumption | omega) (by first | assumption | omega) (hX)) (tV 1 hT m3_64 m3_66 mp_8 m1_12 m3_67 rfl rfl (by decide +kernel) ⟨Nat.le_of_ble_eq_true rfl, Nat.le_of_ble_eq_true rfl⟩) ⟨PcE_blind, va_recv hK hP (ci := 11) (q0 := 57) rfl (ix_at (lt71 (by omega)) (cX_text G ad S)), PcE_of hP hK hD hE hS (fun q h => hFc q h) _⟩ rfl rfl hl.1 rfl (lv_room (Nat.le_of_ble_eq_true rfl)) (fk_get fk_cX9_readAll_0 2 rfl) ⟨Nat.zero_le _, Nat.zero_le _⟩) hS (fun q _ h => hFc q h) hFc (fun r_1 S_3 t_ H locs ht_ hvm_ hw_2 hB_ hz_ hk_ hS => ?_)
  obtain ⟨hP, -, hD1_⟩ := hB_
  rw [ht_] at hP
  have hD : va_D A (wX G ad S_3) := hD1_.weaken (fun k q _ h => hFc q.1 h)
  try dsimp only at hw_2
  obtain ⟨hX_4, hF_5_, hw_2⟩ := hw_2
  have hF_5 : Fr (fun j k => (j = 57 ∧ (k = 2 ∨ k = 7 ∨ k = 8)) ∨ ((j = 59 ∨ j = 60) ∧ k = 99)) S S_3 := Fr.trans (Fr.rf : Fr (fun j k => (j = 57 ∧ (k = 2 ∨ k = 7 ∨ k = 8)) ∨ ((j = 59 ∨ j = 60) ∧ k = 99)) S S) (Fr.mono hF_5_ (fun j k h => by omega))
  have hK2 := hw_2
  have hf2 := hF_5_
  have hT2 := hTx.fr hF_5_ (fun q => by omega) (fun q => by omega)
  refine lv_if_ne (tgt := 10) hx hb (fk_get fk_cX9_readAll_0 3 rfl) (by decide) (fun c_6 => ?_) (fun c_6 => ?_)
  · obtain ⟨L2, e2, hp2, hC2⟩ := rd_y hK2 c_6
    obtain ⟨g1, g2, g3⟩ := hTx.one 2 pz hpz
    have g4 := g3 L2 e2
    refine lv_iconst (v := 0) hx hb (fk_get fk_cX9_readAll_0 6 rfl) (by decide) ?_
    refine lv_istore_n (lv' := [(2, .int (0)), (0, .ref (ad 57)), (1, .int (2))]) hx hb (fk_get fk_cX9_readAll_0 7 rfl) rfl hl (by decide) rfl (fun ls hl => ?_)
    have lp_7 : ∀ (fu : Nat) (k q : Nat) (L : Cds) (SL12 : FS) (H_9 : Heap) (locs_10 : List Loc) (ls : Array Slot),  (XI SL12) → (Fr (fun j k => (j = 57 ∧ (k = 2 ∨ k = 7 ∨ k = 8)) ∨ ((j = 59 ∨ j = 60) ∧ k = 99)) S SL12) → (k ≤ 100) → (100 < k + fu) → (TXz SL12 z τ) → (fF SL12 57 2 = nI q) → (q ≤ z) → (pz + L.length + 1 ≤ q) → (CdP S SL12 c L) → (seqP (oneP cdA τ 2) cdA.2.2.1 38 τ (100 - k) L q = allP cdA (oneP cdA τ 2) τ pz) → va_P G.1 vwCl (wX G ad SL12) H_9 → va_D A (wX G ad SL12) → va_S A s.heap H_9 locs_10 → lv_has ls 3 [(2, .int ((nI k))), (0, .ref (ad 57)), (1, .int (2))] → W p l e ({ frames := 14, cells := 0, slots := 0, locals := 383 } : Room) s m args below meth c₀ H_9 locs_10 0 0 Q (F0 m 12 ls []) := by
      intro fu
      induction fu with
      | zero =>
        intro k q L SL12 H_9 locs_10 ls hXl12 hFl12 hk hf hTl hql hqz hLq hCl hQ2 hP hD hS hl
        exact absurd hf (by omega)
      | succ fu ih =>
        intro k q L SL12 H_9 locs_10 ls hXl12 hFl12 hk hf hTl hql hqz hLq hCl hQ2 hP hD hS hl
        refine lv_iload_n hx hb (fk_get fk_cX9_readAll_0 8 rfl) rfl (lv_at hl 0 rfl) ?_
        refine lv_bipush (v := 100) hx hb (fk_get fk_cX9_readAll_0 9 rfl) (by decide) ?_
        refine lv_icmp_ge (tgt := 53) hx hb (fk_get fk_cX9_readAll_0 10 rfl) (by decide) (fun c_11 => ?_) (fun c_11 => ?_)
        · have q_c_11 : 100 ≤ k := ci_le (a := 100) (b := k) (by omega) (by omega) c_11
          refine lv_iconst (v := 1) hx hb (fk_get fk_cX9_readAll_0 28 rfl) (by decide) ?_
          subst hQ
          have hpost : XI SL12 ∧ Fr (fun j k => (j = 57 ∧ (k = 2 ∨ k = 7 ∨ k = 8)) ∨ ((j = 59 ∨ j = 60) ∧ k = 99)) S SL12 ∧ RdP (allP cdA (oneP cdA τ 2) τ pz) c (1 : Int32) S SL12 := by
            exact ⟨hXl12, hFl12, by first | exact rd_0 (thn_n e2) hp2 | exact rd_1 (hQ2.symm.trans (seq_no n21 _)) hp21 (hCl.keep hf21 (fun q => by omega) (fun q => by omega) (fun q => by omega)) | exact rd_1 (hQ2.symm.trans (by rw [show 100 - k = 0 by omega]; rfl)) hql hCl | exact rd_0 (hQ2.symm.trans ((seq_s (by omega) h21).trans (thn_n e29))) hp29⟩
          exact W.zret (v := 1) hx hb hr rfl (fun t_ ht_ hW_ => ⟨⟨1, SL12, rfl, hpost, by rw [ht_]; exact hP, va_K.moved hW_.alike hK, hD⟩, hS.F ht_⟩) hS.2.2 (fk_get fk_cX9_readAll_0 29 rfl)
        have q_c_11 : k < 100 := ci_nle (a := 100) (b := k) (by omega) (by omega) c_11
        refine lv_aload_n hx hb (fk_get fk_cX9_readAll_0 11 rfl) rfl (lv_at hl 1 rfl) ?_
        refine lv_bipush (v := 38) hx hb (fk_get fk_cX9_readAll_0 12 rfl) (by decide) ?_
        have hFc := va_self hD hS hA
        refine va_calli (va_runV (As := [.int (38)]) (rest := []) ⟨hx, hb, hml, hown, hT⟩ (c_x9_takesE l G ad SL12 H_9.size (z) (q) (38) (τ) (by first | assumption | omega) (by first | assumption | omega) (by first | assumption | omega) (hXl12)) (tV 1 hT m2_213 m2_215 mp_0 m1_12 m2_216 rfl rfl (by decide +kernel) ⟨Nat.le_of_ble_eq_true rfl, Nat.le_of_ble_eq_true rfl⟩) ⟨PcW_blind, va_recv hK hP (ci := 11) (q0 := 57) rfl (ix_at (lt71 (by omega)) (cX_text G ad SL12)), PcW_of hP hK hD _⟩ rfl rfl hl.1 rfl (lv_room (Nat.le_of_ble_eq_true rfl)) (fk_get fk_cX9_readAll_0 13 rfl) ⟨Nat.zero_le _, Nat.zero_le _⟩) hS (fun q _ h => hFc q h) hFc (fun r_12 S_14 t_ H locs ht_ hvm_ hw_13 hB_ hz_ hk_ hS => ?_)
        obtain ⟨hP, -, hD1_⟩ := hB_
        rw [ht_] at hP
        have hD : va_D A (wX G ad S_14) := hD1_.weaken (fun k q _ h => hFc q.1 h)
        try dsimp only at hw_13
        obtain ⟨hX_15, hF_16_, hw_13⟩ := hw_13
        have hF_16 : Fr (fun j k => (j = 57 ∧ (k = 2 ∨ k = 7 ∨ k = 8)) ∨ ((j = 59 ∨ j = 60) ∧ k = 99)) S S_14 := Fr.trans hFl12 (Fr.mono hF_16_ (fun j k h => by omega))
        have hK21 := hw_13
        have hf21 := hF_16_
        have hT21 := hTl.fr hF_16_ (fun q => by omega) (fun q => by omega)
        have hc21 := (Fr.F hF_16_ (j := 57) (k := 7) (lt71 (by omega)) (fun q => by omega)).trans hCl.1
        refine lv_if_eq (tgt := 53) hx hb (fk_get fk_cX9_readAll_0 14 rfl) (by decide) (fun c_17 => ?_) (fun c_17 => ?_)
        · obtain ⟨n21, hp21⟩ := tk_n hK21 c_17
          refine lv_iconst (v := 1) hx hb (fk_get fk_cX9_readAll_0 28 rfl) (by decide) ?_
          subst hQ
          have hpost : XI S_14 ∧ Fr (fun j k => (j = 57 ∧ (k = 2 ∨ k = 7 ∨ k = 8)) ∨ ((j = 59 ∨ j = 60) ∧ k = 99)) S S_14 ∧ RdP (allP cdA (oneP cdA τ 2) τ pz) c (1 : Int32) S S_14 := by
            exact ⟨hX_15, hF_16, by first | exact rd_0 (thn_n e2) hp2 | exact rd_1 (hQ2.symm.trans (seq_no n21 _)) hp21 (hCl.keep hf21 (fun q => by omega) (fun q => by omega) (fun q => by omega)) | exact rd_1 (hQ2.symm.trans (by rw [show 100 - k = 0 by omega]; rfl)) hql hCl | exact rd_0 (hQ2.symm.trans ((seq_s (by omega) h21).trans (thn_n e29))) hp29⟩
          exact W.zret (v := 1) hx hb hr rfl (fun t_ ht_ hW_ => ⟨⟨1, S_14, rfl, hpost, by rw [ht_]; exact hP, va_K.moved hW_.alike hK, hD⟩, hS.F ht_⟩) hS.2.2 (fk_get fk_cX9_readAll_0 29 rfl)
        obtain ⟨h21, hp21⟩ := tk_y hK21 c_17
        have hz21 := hTx.lt h21 (by decide)
        refine lv_aload_n hx hb (fk_get fk_cX9_readAll_0 15 rfl) rfl (lv_at hl 1 rfl) ?_
        refine lv_iload_n hx hb (fk_get fk_cX9_readAll_0 16 rfl) rfl (lv_at hl 2 rfl) ?_
        have hFc := va_self hD hS hA
        refine va_calli (va_runV (As := [.int (2)]) (rest := []) ⟨hx, hb, hml, hown, hT⟩ (c_x9_one2E l G ad S_14 H.size (z) (q + 1) (c + L.length) (τ) (by first | assumption | omega) (by first | assumption | omega) (by first | assumption | omega) (by first | assumption | omega) (by first | assumption | omega) (hX_15)) (tV 1 hT m3_64 m3_66 mp_8 m1_12 m3_67 rfl rfl (by decide +kernel) ⟨Nat.le_of_ble_eq_true rfl, Nat.le_of_ble_eq_true rfl⟩) ⟨PcE_blind, va_recv hK hP (ci := 11) (q0 := 57) rfl (ix_at (lt71 (by omega)) (cX_text G ad S_14)), PcE_of hP hK hD hE hS (fun q h => hFc q h) _⟩ rfl rfl hl.1 rfl (lv_room (Nat.le_of_ble_eq_true rfl)) (fk_get fk_cX9_readAll_0 17 rfl) ⟨Nat.zero_le _, Nat.zero_le _⟩) hS (fun q _ h => hFc q h) hFc (fun r_18 S_20 t_ H locs ht_ hvm_ hw_19 hB_ hz_ hk_ hS => ?_)
        obtain ⟨hP, -, hD1_⟩ := hB_
        rw [ht_] at hP
        have hD : va_D A (wX G ad S_20) := hD1_.weaken (fun k q _ h => hFc q.1 h)
        try dsimp only at hw_19
        obtain ⟨hX_21, hF_22_, hw_19⟩ := hw_19
        have hF_22 : Fr (fun j k => (j = 57 ∧ (k = 2 ∨ k = 7 ∨ k = 8)) ∨ ((j = 59 ∨ j = 60) ∧ k = 99)) S S_20 := Fr.trans hF_16 (Fr.mono hF_22_ (fun j k h => by omega))
        have hK29 := hw_19
        have hT29 := hT21.fr hF_22_ (fun q => by omega) (fun q => by omega)
        refine lv_if_eq (tgt := 45) hx hb (fk_get fk_cX9_readAll_0 18 rfl) (by decide) (fun c_23 => ?_) (fun c_23 => ?_)
        · obtain ⟨e29, hp29⟩ := rd_n hK29 c_23
          refine lv_iconst (v := 0) hx hb (fk_get fk_cX9_readAll_0 24 rfl) (by decide) ?_
          subst hQ
          have hpost : XI S_20 ∧ Fr (fun j k => (j = 57 ∧ (k = 2 ∨ k = 7 ∨ k = 8)) ∨ ((j = 59 ∨ j = 60) ∧ k = 99)) S S_20 ∧ RdP (allP cdA (oneP cdA τ 2) τ pz) c (0 : Int32) S S_20 := by
            exact ⟨hX_21, hF_22, by first | exact rd_0 (thn_n e2) hp2 | exact rd_1 (hQ2.symm.trans (seq_no n21 _)) hp21 (hCl.keep hf21 (fun q => by omega) (fun q => by omega) (fun q => by omega)) | exact rd_1 (hQ2.symm.trans (by rw [show 100 - k = 0 by omega]; rfl)) hql hCl | exact rd_0 (hQ2.symm.trans ((seq_s (by omega) h21).trans (thn_n e29))) hp29⟩
          exact W.zret (v := 0) hx hb hr rfl (fun t_ ht_ hW_ => ⟨⟨0, S_20, rfl, hpost, by rw [ht_]; exact hP, va_K.moved hW_.alike hK, hD⟩, hS.F ht_⟩) hS.2.2 (fk_get fk_cX9_readAll_0 25 rfl)
        obtain ⟨M, e29, hp29, hC29⟩ := rd_y hK29 c_23
        obtain ⟨g5, g6, g7⟩ := hTx.one 2 (q + 1) (by omega)
        have g8 := g7 M e29
        have hc29 := hC29.1
        refine lv_aload_n hx hb (fk_get fk_cX9_readAll_0 19 rfl) rfl (lv_at hl 1 rfl) ?_
        refine lv_bipush (v := 19) hx hb (fk_get fk_cX9_readAll_0 20 rfl) (by decide) ?_
        refine lv_iconst (v := 0) hx hb (fk_get fk_cX9_readAll_0 21 rfl) (by decide) ?_
        have hFc := va_self hD hS hA
        refine va_calli (va_runV (As := [.int (19), .int (0)]) (rest := []) ⟨hx, hb, hml, hown, hT⟩ (c_x9_putE l G ad S_20 H.size (c + L.length + M.length) (19) (0) (by first | assumption | omega) (by first | assumption | omega) (hX_21)) (tV 2 hT m3_68 m3_70 mp_9 m1_12 m3_71 rfl rfl (by decide +kernel) ⟨Nat.le_of_ble_eq_true rfl, Nat.le_of_ble_eq_true rfl⟩) ⟨PcW_blind, va_recv hK hP (ci := 11) (q0 := 57) rfl (ix_at (lt71 (by omega)) (cX_text G ad S_20)), PcW_of hP hK hD _⟩ rfl rfl hl.1 rfl (lv_room (Nat.le_of_ble_eq_true rfl)) (fk_get fk_cX9_readAll_0 22 rfl) ⟨Nat.zero_le _, Nat.zero_le _⟩) hS (fun q _ h => hFc q h) hFc (fun r_24 S_26 t_ H locs ht_ hvm_ hw_25 hB_ hz_ hk_ hS => ?_)
        obtain ⟨hP, -, hD1_⟩ := hB_
        rw [ht_] at hP
        have hD : va_D A (wX G ad S_26) := hD1_.weaken (fun k q _ h => hFc q.1 h)
        try dsimp only at hw_25
        obtain ⟨hX_27, hF_28_, hw_25⟩ := hw_25
        have hF_28 : Fr (fun j k => (j = 57 ∧ (k = 2 ∨ k = 7 ∨ k = 8)) ∨ ((j = 59 ∨ j = 60) ∧ k = 99)) S S_26 := Fr.trans hF_22 (Fr.mono hF_28_ (fun j k h => by omega))
        obtain ⟨e_, hP39⟩ := hw_25
        subst e_
        have hp39 := (Fr.F hF_28_ (j := 57) (k := 2) (lt71 (by omega)) (fun q => by omega)).trans hp29
        have hT39 := hT29.fr hF_28_ (fun q => by omega) (fun q => by omega)
        refine lv_if_ne (tgt := 47) hx hb (fk_get fk_cX9_readAll_0 23 rfl) (by decide) (fun _ => ?_) (fun c_29 => absurd c_29 ((by decide)))
        refine lv_iinc (v := (nI (k + 1))) (lv' := [(2, .int ((nI (k + 1)))), (0, .ref (ad 57)), (1, .int (2))]) hx hb (fk_get fk_cX9_readAll_0 26 rfl) hl (k := 0) rfl ((nI_1 k)) (by decide) rfl (fun ls hl => ?_)
        refine lv_goto (tgt := 12) hx hb (fk_get fk_cX9_readAll_0 27 rfl) (by decide) ?_
        exact ih (k + 1) (((oneP cdA τ 2) (q + 1)).2) ((cdA.2.2.1 L M)) (S_26) _ _ ls (hX_27) (hF_28) (by omega) (by omega) (hT39) (hp39) (g6) ((by rw [show (cdA.2.2.1 L M).length = L.length + M.length + 1 from op_len L M _]; omega)) (((hCl.keep hf21 (fun q => by omega) (fun q => by omega) (fun q => by omega)).app hC29).put (by rw [List.length_append, ← Nat.add_assoc]; exact hP39)) (((thn_s e29).symm.trans ((seq_s (by omega) h21).symm.trans hQ2))) hP hD hS (lv_sub hl [0, 1, 2] rfl)
    exact lp_7 (101) (0) (((oneP cdA τ 2) pz).2) (L2) (S_3) _ _ ls (hX_4) (hF_5) (by omega) (by omega) (hT2) (hp2) (g2) (g4) (hC2) ((thn_s e2).symm) hP hD hS (lv_sub hl [0, 1, 2] rfl)
  obtain ⟨e2, hp2⟩ := rd_n hK2 (by assumption)
  refine lv_iconst (v := 0) hx hb (fk_get fk_cX9_readAll_0 4 rfl) (by decide) ?_
  subst hQ
  have hpost : XI S_3 ∧ Fr (fun j k => (j = 57 ∧ (k = 2 ∨ k = 7 ∨ k = 8)) ∨ ((j = 59 ∨ j = 60) ∧ k = 99)) S S_3 ∧ RdP (allP cdA (oneP cdA τ 2) τ pz) c (0 : Int32) S S_3 := by
    exact ⟨hX_4, hF_5, by first | exact rd_0 (thn_n e2) hp2 | exact rd_1 (hQ2.symm.trans (seq_no n21 _)) hp21 (hCl.keep hf21 (fun q => by omega) (fun q => by omega) (fun q => by omega)) | exact rd_1 (hQ2.symm.trans (by rw [show 100 - k = 0 by omega]; rfl)) hql hCl | exact rd_0 (hQ2.symm.trans ((seq_s (by omega) h21).trans (thn_n e29))) hp29⟩
  exact W.zret (v := 0) hx hb hr rfl (fun t_ ht_ hW_ => ⟨⟨0, S_3, rfl, hpost, by rw [ht_]; exact hP, va_K.moved hW_.alike hK, hD⟩, hS.F ht_⟩) hS.2.2 (fk_get fk_cX9_readAll_0 5 rfl)
set_option maxHeartbeats 800000 in
set_option maxRecDepth 100000 in
theorem c_x9_any2E (l : Launch) (G : GG) (ad : Nat → Nat) (S : FS) (sz : Nat) (z pz c : Nat) (τ : Nat → Int32) (hTx : TXz S z τ) (hp : fF S 57 2 = nI pz) (hpz : pz ≤ z) (hc : fF S 57 7 = nI c) (hcp : c ≤ pz) (hX : XI S) : Met l yX9_readAny (Cond.code yX9_readAny cX9_readAny 3 (some .boolean) :: TBL) ({ frames := 15, cells := 0, slots := 0, locals := 409 } : Room) (PcE G (wX G ad S) sz [.ref (ad 57), .int (2)]) (va_Qi (fun (r : Int32) (S' : FS) => XI S' ∧ Fr (fun j k => (j = 57 ∧ (k = 2 ∨ k = 7 ∨ k = 8)) ∨ ((j = 59 ∨ j = 60) ∧ k = 99)) S S' ∧ RdP (anyP cdA (oneP cdA τ 2) τ pz) c r S S') (fun S' t => BW G (va_A (wX G ad S) sz) (wX G ad S') t) (va_A (wX G ad S) sz)) 0 0 (va_A (wX G ad S) sz) := by
  refine Met.ofW (cc := cX9_readAny) (maxL := 3) (ret := (some .boolean)) (by decide) rfl ?_
  intro p e s m args below meth c₀ s₁ B hml hv
  obtain ⟨rfl, hsz, hP, hK, hD0, hE⟩ := hv
  have hx := B.exec
  have hb := B.bytes
  have hr := B.returns
  have hT : ∀ w ∈ TBL, w.before ([.ref (ad 57), .int (2)] : List Value).toArray s = true := fun w h => atoms_spec (ws := Cond.code yX9_readAny cX9_readAny 3 (some .boolean) :: TBL) B.pre w (List.mem_cons_of_mem _ h)
  have hown : s.vm.findClass "LittleMore$Text" = some m.cls := findClass_of_methodNamed B.named
  have hlocks := B.notSynchronized
  subst hsz
  have hD := hD0.self (sz := s.heap.size)
  generalize hAe : va_A (wX G ad S) s.heap.size = A at hD hE ⊢
  have hA : ∀ q : Nat, s.heap.size ≤ q → A q := fun q h => by rw [← hAe]; exact Or.inr h
  have hS : va_S A s.heap s.heap [] := va_S.rf
  have hP : va_P G.1 vwCl (wX G ad S) s.heap := hP
  have hl := lv_entry ([.ref (ad 57), .int (2)]) (n := 3) (Nat.le_of_ble_eq_true rfl)
  rw [lg_entry_eq]
  generalize (lg_sl ([.ref (ad 57), .int (2)]) ++ List.replicate (3 - (lg_sl ([.ref (ad 57), .int (2)])).length) Slot.unset).toArray = ls at hl ⊢
  have hl : lv_has ls 3 [(0, .ref (ad 57)), (1, .int (2))] := hl
  refine W_abs (fun Q hQ => ?_)
  generalize ([.ref (ad 57), .int (2)] : List Value).toArray = args at hT hQ ⊢
  have hz1 := hTx.2.1
  refine lv_aload_n hx hb (fk_get fk_cX9_readAny_0 0 rfl) rfl (lv_at hl 0 rfl) ?_
  refine lv_iload_n hx hb (fk_get fk_cX9_readAny_0 1 rfl) rfl (lv_at hl 1 rfl) ?_
  have hFc := va_self hD hS hA
  refine va_calli (va_runV (As := [.int (2)]) (rest := []) ⟨hx, hb, hml, hown, hT⟩ (c_x9_all2E l G ad S s.heap.size (z) (pz) (c) (τ) (by first | assumption | omega) (by first | assumption | omega) (by first | assumption | omega) (by first | assumption | omega) (by first | assumption | omega) (hX)) (tV 1 hT m3_60 m3_62 mp_7 m1_12 m3_63 rfl rfl (by decide +kernel) ⟨Nat.le_of_ble_eq_true rfl, Nat.le_of_ble_eq_true rfl⟩) ⟨PcE_blind, va_recv hK hP (ci := 11) (q0 := 57) rfl (ix_at (lt71 (by omega)) (cX_text G ad S)), PcE_of hP hK hD hE hS (fun q h => hFc q h) _⟩ rfl rfl hl.1 rfl (lv_room (Nat.le_of_ble_eq_true rfl)) (fk_get fk_cX9_readAny_0 2 rfl) ⟨Nat.zero_le _, Nat.zero_le _⟩) hS (fun q _ h => hFc q h) hFc (fun r_1 S_3 t_ H locs ht_ hvm_ hw_2 hB_ hz_ hk_ hS => ?_)
  obtain ⟨hP, -, hD1_⟩ := hB_
  rw [ht_] at hP
  have hD : va_D A (wX G ad S_3) := hD1_.weaken (fun k q _ h => hFc q.1 h)
  try dsimp only at hw_2
  obtain ⟨hX_4, hF_5_, hw_2⟩ := hw_2
  have hF_5 : Fr (fun j k => (j = 57 ∧ (k = 2 ∨ k = 7 ∨ k = 8)) ∨ ((j = 59 ∨ j = 60) ∧ k = 99)) S S_3 := Fr.trans (Fr.rf : Fr (fun j k => (j = 57 ∧ (k = 2 ∨ k = 7 ∨ k = 8)) ∨ ((j = 59 ∨ j = 60) ∧ k = 99)) S S) (Fr.mono hF_5_ (fun j k h => by omega))
  have hK2 := hw_2
  have hf2 := hF_5_
  have hT2 := hTx.fr hF_5_ (fun q => by omega) (fun q => by omega)
  refine lv_if_ne (tgt := 10) hx hb (fk_get fk_cX9_readAny_0 3 rfl) (by decide) (fun c_6 => ?_) (fun c_6 => ?_)
  · obtain ⟨L2, e2, hp2, hC2⟩ := rd_y hK2 c_6
    obtain ⟨g1, g2, g3⟩ := hTx.all 2 pz hpz
    have g4 := g3 L2 e2
    refine lv_iconst (v := 0) hx hb (fk_get fk_cX9_readAny_0 6 rfl) (by decide) ?_
    refine lv_istore_n (lv' := [(2, .int (0)), (0, .ref (ad 57)), (1, .int (2))]) hx hb (fk_get fk_cX9_readAny_0 7 rfl) rfl hl (by decide) rfl (fun ls hl => ?_)
    have lp_7 : ∀ (fu : Nat) (k q : Nat) (L : Cds) (SL12 : FS) (H_9 : Heap) (locs_10 : List Loc) (ls : Array Slot),  (XI SL12) → (Fr (fun j k => (j = 57 ∧ (k = 2 ∨ k = 7 ∨ k = 8)) ∨ ((j = 59 ∨ j = 60) ∧ k = 99)) S SL12) → (k ≤ 100) → (100 < k + fu) → (TXz SL12 z τ) → (fF SL12 57 2 = nI q) → (q ≤ z) → (pz + L.length + 1 ≤ q) → (CdP S SL12 c L) → (seqP (allP cdA (oneP cdA τ 2) τ) cdA.2.2.2 124 τ (100 - k) L q = anyP cdA (oneP cdA τ 2) τ pz) → va_P G.1 vwCl (wX G ad SL12) H_9 → va_D A (wX G ad SL12) → va_S A s.heap H_9 locs_10 → lv_has ls 3 [(2, .int ((nI k))), (0, .ref (ad 57)), (1, .int (2))] → W p l e ({ frames := 15, cells := 0, slots := 0, locals := 409 } : Room) s m args below meth c₀ H_9 locs_10 0 0 Q (F0 m 12 ls []) := by
      intro fu
      induction fu with
      | zero =>
        intro k q L SL12 H_9 locs_10 ls hXl12 hFl12 hk hf hTl hql hqz hLq hCl hQ2 hP hD hS hl
        exact absurd hf (by omega)
      | succ fu ih =>
        intro k q L SL12 H_9 locs_10 ls hXl12 hFl12 hk hf hTl hql hqz hLq hCl hQ2 hP hD hS hl
        refine lv_iload_n hx hb (fk_get fk_cX9_readAny_0 8 rfl) rfl (lv_at hl 0 rfl) ?_
        refine lv_bipush (v := 100) hx hb (fk_get fk_cX9_readAny_0 9 rfl) (by decide) ?_
        refine lv_icmp_ge (tgt := 53) hx hb (fk_get fk_cX9_readAny_0 10 rfl) (by decide) (fun c_11 => ?_) (fun c_11 => ?_)
        · have q_c_11 : 100 ≤ k := ci_le (a := 100) (b := k) (by omega) (by omega) c_11
          refine lv_iconst (v := 1) hx hb (fk_get fk_cX9_readAny_0 28 rfl) (by decide) ?_
          subst hQ
          have hpost : XI SL12 ∧ Fr (fun j k => (j = 57 ∧ (k = 2 ∨ k = 7 ∨ k = 8)) ∨ ((j = 59 ∨ j = 60) ∧ k = 99)) S SL12 ∧ RdP (anyP cdA (oneP cdA τ 2) τ pz) c (1 : Int32) S SL12 := by
            exact ⟨hXl12, hFl12, by first | exact rd_0 (thn_n e2) hp2 | exact rd_1 (hQ2.symm.trans (seq_no n21 _)) hp21 (hCl.keep hf21 (fun q => by omega) (fun q => by omega) (fun q => by omega)) | exact rd_1 (hQ2.symm.trans (by rw [show 100 - k = 0 by omega]; rfl)) hql hCl | exact rd_0 (hQ2.symm.trans ((seq_s (by omega) h21).trans (thn_n e29))) hp29⟩
          exact W.zret (v := 1) hx hb hr rfl (fun t_ ht_ hW_ => ⟨⟨1, SL12, rfl, hpost, by rw [ht_]; exact hP, va_K.moved hW_.alike hK, hD⟩, hS.F ht_⟩) hS.2.2 (fk_get fk_cX9_readAny_0 29 rfl)
        have q_c_11 : k < 100 := ci_nle (a := 100) (b := k) (by omega) (by omega) c_11
        refine lv_aload_n hx hb (fk_get fk_cX9_readAny_0 11 rfl) rfl (lv_at hl 1 rfl) ?_
        refine lv_bipush (v := 124) hx hb (fk_get fk_cX9_readAny_0 12 rfl) (by decide) ?_
        have hFc := va_self hD hS hA
        refine va_calli (va_runV (As := [.int (124)]) (rest := []) ⟨hx, hb, hml, hown, hT⟩ (c_x9_takesE l G ad SL12 H_9.size (z) (q) (124) (τ) (by first | assumption | omega) (by first | assumption | omega) (by first | assumption | omega) (hXl12)) (tV 1 hT m2_213 m2_215 mp_0 m1_12 m2_216 rfl rfl (by decide +kernel) ⟨Nat.le_of_ble_eq_true rfl, Nat.le_of_ble_eq_true rfl⟩) ⟨PcW_blind, va_recv hK hP (ci := 11) (q0 := 57) rfl (ix_at (lt71 (by omega)) (cX_text G ad SL12)), PcW_of hP hK hD _⟩ rfl rfl hl.1 rfl (lv_room (Nat.le_of_ble_eq_true rfl)) (fk_get fk_cX9_readAny_0 13 rfl) ⟨Nat.zero_le _, Nat.zero_le _⟩) hS (fun q _ h => hFc q h) hFc (fun r_12 S_14 t_ H locs ht_ hvm_ hw_13 hB_ hz_ hk_ hS => ?_)
        obtain ⟨hP, -, hD1_⟩ := hB_
        rw [ht_] at hP
        have hD : va_D A (wX G ad S_14) := hD1_.weaken (fun k q _ h => hFc q.1 h)
        try dsimp only at hw_13
        obtain ⟨hX_15, hF_16_, hw_13⟩ := hw_13
        have hF_16 : Fr (fun j k => (j = 57 ∧ (k = 2 ∨ k = 7 ∨ k = 8)) ∨ ((j = 59 ∨ j = 60) ∧ k = 99)) S S_14 := Fr.trans hFl12 (Fr.mono hF_16_ (fun j k h => by omega))
        have hK21 := hw_13
        have hf21 := hF_16_
        have hT21 := hTl.fr hF_16_ (fun q => by omega) (fun q => by omega)
        have hc21 := (Fr.F hF_16_ (j := 57) (k := 7) (lt71 (by omega)) (fun q => by omega)).trans hCl.1
        refine lv_if_eq (tgt := 53) hx hb (fk_get fk_cX9_readAny_0 14 rfl) (by decide) (fun c_17 => ?_) (fun c_17 => ?_)
        · obtain ⟨n21, hp21⟩ := tk_n hK21 c_17
          refine lv_iconst (v := 1) hx hb (fk_get fk_cX9_readAny_0 28 rfl) (by decide) ?_
          subst hQ
          have hpost : XI S_14 ∧ Fr (fun j k => (j = 57 ∧ (k = 2 ∨ k = 7 ∨ k = 8)) ∨ ((j = 59 ∨ j = 60) ∧ k = 99)) S S_14 ∧ RdP (anyP cdA (oneP cdA τ 2) τ pz) c (1 : Int32) S S_14 := by
            exact ⟨hX_15, hF_16, by first | exact rd_0 (thn_n e2) hp2 | exact rd_1 (hQ2.symm.trans (seq_no n21 _)) hp21 (hCl.keep hf21 (fun q => by omega) (fun q => by omega) (fun q => by omega)) | exact rd_1 (hQ2.symm.trans (by rw [show 100 - k = 0 by omega]; rfl)) hql hCl | exact rd_0 (hQ2.symm.trans ((seq_s (by omega) h21).trans (thn_n e29))) hp29⟩
          exact W.zret (v := 1) hx hb hr rfl (fun t_ ht_ hW_ => ⟨⟨1, S_14, rfl, hpost, by rw [ht_]; exact hP, va_K.moved hW_.alike hK, hD⟩, hS.F ht_⟩) hS.2.2 (fk_get fk_cX9_readAny_0 29 rfl)
        obtain ⟨h21, hp21⟩ := tk_y hK21 c_17
        have hz21 := hTx.lt h21 (by decide)
        refine lv_aload_n hx hb (fk_get fk_cX9_readAny_0 15 rfl) rfl (lv_at hl 1 rfl) ?_
        refine lv_iload_n hx hb (fk_get fk_cX9_readAny_0 16 rfl) rfl (lv_at hl 2 rfl) ?_
        have hFc := va_self hD hS hA
        refine va_calli (va_runV (As := [.int (2)]) (rest := []) ⟨hx, hb, hml, hown, hT⟩ (c_x9_all2E l G ad S_14 H.size (z) (q + 1) (c + L.length) (τ) (by first | assumption | omega) (by first | assumption | omega) (by first | assumption | omega) (by first | assumption | omega) (by first | assumption | omega) (hX_15)) (tV 1 hT m3_60 m3_62 mp_7 m1_12 m3_63 rfl rfl (by decide +kernel) ⟨Nat.le_of_ble_eq_true rfl, Nat.le_of_ble_eq_true rfl⟩) ⟨PcE_blind, va_recv hK hP (ci := 11) (q0 := 57) rfl (ix_at (lt71 (by omega)) (cX_text G ad S_14)), PcE_of hP hK hD hE hS (fun q h => hFc q h) _⟩ rfl rfl hl.1 rfl (lv_room (Nat.le_of_ble_eq_true rfl)) (fk_get fk_cX9_readAny_0 17 rfl) ⟨Nat.zero_le _, Nat.zero_le _⟩) hS (fun q _ h => hFc q h) hFc (fun r_18 S_20 t_ H locs ht_ hvm_ hw_19 hB_ hz_ hk_ hS => ?_)
        obtain ⟨hP, -, hD1_⟩ := hB_
        rw [ht_] at hP
        have hD : va_D A (wX G ad S_20) := hD1_.weaken (fun k q _ h => hFc q.1 h)
        try dsimp only at hw_19
        obtain ⟨hX_21, hF_22_, hw_19⟩ := hw_19
        have hF_22 : Fr (fun j k => (j = 57 ∧ (k = 2 ∨ k = 7 ∨ k = 8)) ∨ ((j = 59 ∨ j = 60) ∧ k = 99)) S S_20 := Fr.trans hF_16 (Fr.mono hF_22_ (fun j k h => by omega))
        have hK29 := hw_19
        have hT29 := hT21.fr hF_22_ (fun q => by omega) (fun q => by omega)
        refine lv_if_eq (tgt := 45) hx hb (fk_get fk_cX9_readAny_0 18 rfl) (by decide) (fun c_23 => ?_) (fun c_23 => ?_)
        · obtain ⟨e29, hp29⟩ := rd_n hK29 c_23
          refine lv_iconst (v := 0) hx hb (fk_get fk_cX9_readAny_0 24 rfl) (by decide) ?_
          subst hQ
          have hpost : XI S_20 ∧ Fr (fun j k => (j = 57 ∧ (k = 2 ∨ k = 7 ∨ k = 8)) ∨ ((j = 59 ∨ j = 60) ∧ k = 99)) S S_20 ∧ RdP (anyP cdA (oneP cdA τ 2) τ pz) c (0 : Int32) S S_20 := by
            exact ⟨hX_21, hF_22, by first | exact rd_0 (thn_n e2) hp2 | exact rd_1 (hQ2.symm.trans (seq_no n21 _)) hp21 (hCl.keep hf21 (fun q => by omega) (fun q => by omega) (fun q => by omega)) | exact rd_1 (hQ2.symm.trans (by rw [show 100 - k = 0 by omega]; rfl)) hql hCl | exact rd_0 (hQ2.symm.trans ((seq_s (by omega) h21).trans (thn_n e29))) hp29⟩
          exact W.zret (v := 0) hx hb hr rfl (fun t_ ht_ hW_ => ⟨⟨0, S_20, rfl, hpost, by rw [ht_]; exact hP, va_K.moved hW_.alike hK, hD⟩, hS.F ht_⟩) hS.2.2 (fk_get fk_cX9_readAny_0 25 rfl)
        obtain ⟨M, e29, hp29, hC29⟩ := rd_y hK29 c_23
        obtain ⟨g5, g6, g7⟩ := hTx.all 2 (q + 1) (by omega)
        have g8 := g7 M e29
        have hc29 := hC29.1
        refine lv_aload_n hx hb (fk_get fk_cX9_readAny_0 19 rfl) rfl (lv_at hl 1 rfl) ?_
        refine lv_bipush (v := 20) hx hb (fk_get fk_cX9_readAny_0 20 rfl) (by decide) ?_
        refine lv_iconst (v := 0) hx hb (fk_get fk_cX9_readAny_0 21 rfl) (by decide) ?_
        have hFc := va_self hD hS hA
        refine va_calli (va_runV (As := [.int (20), .int (0)]) (rest := []) ⟨hx, hb, hml, hown, hT⟩ (c_x9_putE l G ad S_20 H.size (c + L.length + M.length) (20) (0) (by first | assumption | omega) (by first | assumption | omega) (hX_21)) (tV 2 hT m3_68 m3_70 mp_9 m1_12 m3_71 rfl rfl (by decide +kernel) ⟨Nat.le_of_ble_eq_true rfl, Nat.le_of_ble_eq_true rfl⟩) ⟨PcW_blind, va_recv hK hP (ci := 11) (q0 := 57) rfl (ix_at (lt71 (by omega)) (cX_text G ad S_20)), PcW_of hP hK hD _⟩ rfl rfl hl.1 rfl (lv_room (Nat.le_of_ble_eq_true rfl)) (fk_get fk_cX9_readAny_0 22 rfl) ⟨Nat.zero_le _, Nat.zero_le _⟩) hS (fun q _ h => hFc q h) hFc (fun r_24 S_26 t_ H locs ht_ hvm_ hw_25 hB_ hz_ hk_ hS => ?_)
        obtain ⟨hP, -, hD1_⟩ := hB_
        rw [ht_] at hP
        have hD : va_D A (wX G ad S_26) := hD1_.weaken (fun k q _ h => hFc q.1 h)
        try dsimp only at hw_25
        obtain ⟨hX_27, hF_28_, hw_25⟩ := hw_25
        have hF_28 : Fr (fun j k => (j = 57 ∧ (k = 2 ∨ k = 7 ∨ k = 8)) ∨ ((j = 59 ∨ j = 60) ∧ k = 99)) S S_26 := Fr.trans hF_22 (Fr.mono hF_28_ (fun j k h => by omega))
        obtain ⟨e_, hP39⟩ := hw_25
        subst e_
        have hp39 := (Fr.F hF_28_ (j := 57) (k := 2) (lt71 (by omega)) (fun q => by omega)).trans hp29
        have hT39 := hT29.fr hF_28_ (fun q => by omega) (fun q => by omega)
        refine lv_if_ne (tgt := 47) hx hb (fk_get fk_cX9_readAny_0 23 rfl) (by decide) (fun _ => ?_) (fun c_29 => absurd c_29 ((by decide)))
        refine lv_iinc (v := (nI (k + 1))) (lv' := [(2, .int ((nI (k + 1)))), (0, .ref (ad 57)), (1, .int (2))]) hx hb (fk_get fk_cX9_readAny_0 26 rfl) hl (k := 0) rfl ((nI_1 k)) (by decide) rfl (fun ls hl => ?_)
        refine lv_goto (tgt := 12) hx hb (fk_get fk_cX9_readAny_0 27 rfl) (by decide) ?_
        exact ih (k + 1) (((allP cdA (oneP cdA τ 2) τ) (q + 1)).2) ((cdA.2.2.2 L M)) (S_26) _ _ ls (hX_27) (hF_28) (by omega) (by omega) (hT39) (hp39) (g6) ((by rw [show (cdA.2.2.2 L M).length = L.length + M.length + 1 from op_len L M _]; omega)) (((hCl.keep hf21 (fun q => by omega) (fun q => by omega) (fun q => by omega)).app hC29).put (by rw [List.length_append, ← Nat.add_assoc]; exact hP39)) (((thn_s e29).symm.trans ((seq_s (by omega) h21).symm.trans hQ2))) hP hD hS (lv_sub hl [0, 1, 2] rfl)
    exact lp_7 (101) (0) (((allP cdA (oneP cdA τ 2) τ) pz).2) (L2) (S_3) _ _ ls (hX_4) (hF_5) (by omega) (by omega) (hT2) (hp2) (g2) (g4) (hC2) ((thn_s e2).symm) hP hD hS (lv_sub hl [0, 1, 2] rfl)
  obtain ⟨e2, hp2⟩ := rd_n hK2 (by assumption)
  refine lv_iconst (v := 0) hx hb (fk_get fk_cX9_readAny_0 4 rfl) (by decide) ?_
  subst hQ
  have hpost : XI S_3 ∧ Fr (fun j k => (j = 57 ∧ (k = 2 ∨ k = 7 ∨ k = 8)) ∨ ((j = 59 ∨ j = 60) ∧ k = 99)) S S_3 ∧ RdP (anyP cdA (oneP cdA τ 2) τ pz) c (0 : Int32) S S_3 := by
    exact ⟨hX_4, hF_5, by first | exact rd_0 (thn_n e2) hp2 | exact rd_1 (hQ2.symm.trans (seq_no n21 _)) hp21 (hCl.keep hf21 (fun q => by omega) (fun q => by omega) (fun q => by omega)) | exact rd_1 (hQ2.symm.trans (by rw [show 100 - k = 0 by omega]; rfl)) hql hCl | exact rd_0 (hQ2.symm.trans ((seq_s (by omega) h21).trans (thn_n e29))) hp29⟩
  exact W.zret (v := 0) hx hb hr rfl (fun t_ ht_ hW_ => ⟨⟨0, S_3, rfl, hpost, by rw [ht_]; exact hP, va_K.moved hW_.alike hK, hD⟩, hS.F ht_⟩) hS.2.2 (fk_get fk_cX9_readAny_0 5 rfl)
set_option maxHeartbeats 800000 in
set_option maxRecDepth 100000 in
theorem c_x9_one1E (l : Launch) (G : GG) (ad : Nat → Nat) (S : FS) (sz : Nat) (z pz c : Nat) (τ : Nat → Int32) (hTx : TXz S z τ) (hp : fF S 57 2 = nI pz) (hpz : pz ≤ z) (hc : fF S 57 7 = nI c) (hcp : c ≤ pz) (hX : XI S) : Met l yX9_readOne (Cond.code yX9_readOne cX9_readOne 4 (some .boolean) :: TBL) ({ frames := 16, cells := 0, slots := 0, locals := 435 } : Room) (PcE G (wX G ad S) sz [.ref (ad 57), .int (1)]) (va_Qi (fun (r : Int32) (S' : FS) => XI S' ∧ Fr (fun j k => (j = 57 ∧ (k = 2 ∨ k = 7 ∨ k = 8)) ∨ ((j = 59 ∨ j = 60) ∧ k = 99)) S S' ∧ RdP (oneP cdA τ 3 pz) c r S S') (fun S' t => BW G (va_A (wX G ad S) sz) (wX G ad S') t) (va_A (wX G ad S) sz)) 0 0 (va_A (wX G ad S) sz) := by
  refine Met.ofW (cc := cX9_readOne) (maxL := 4) (ret := (some .boolean)) (by decide) rfl ?_
  intro p e s m args below meth c₀ s₁ B hml hv
  obtain ⟨rfl, hsz, hP, hK, hD0, hE⟩ := hv
  have hx := B.exec
  have hb := B.bytes
  have hr := B.returns
  have hT : ∀ w ∈ TBL, w.before ([.ref (ad 57), .int (1)] : List Value).toArray s = true := fun w h => atoms_spec (ws := Cond.code yX9_readOne cX9_readOne 4 (some .boolean) :: TBL) B.pre w (List.mem_cons_of_mem _ h)
  have hown : s.vm.findClass "LittleMore$Text" = some m.cls := findClass_of_methodNamed B.named
  have hlocks := B.notSynchronized
  subst hsz
  have hD := hD0.self (sz := s.heap.size)
  generalize hAe : va_A (wX G ad S) s.heap.size = A at hD hE ⊢
  have hA : ∀ q : Nat, s.heap.size ≤ q → A q := fun q h => by rw [← hAe]; exact Or.inr h
  have hS : va_S A s.heap s.heap [] := va_S.rf
  have hP : va_P G.1 vwCl (wX G ad S) s.heap := hP
  have hl := lv_entry ([.ref (ad 57), .int (1)]) (n := 4) (Nat.le_of_ble_eq_true rfl)
  rw [lg_entry_eq]
  generalize (lg_sl ([.ref (ad 57), .int (1)]) ++ List.replicate (4 - (lg_sl ([.ref (ad 57), .int (1)])).length) Slot.unset).toArray = ls at hl ⊢
  have hl : lv_has ls 4 [(0, .ref (ad 57)), (1, .int (1))] := hl
  refine W_abs (fun Q hQ => ?_)
  generalize ([.ref (ad 57), .int (1)] : List Value).toArray = args at hT hQ ⊢
  have hz1 := hTx.2.1
  refine lv_iload_n hx hb (fk_get fk_cX9_readOne_0 0 rfl) rfl (lv_at hl 1 rfl) ?_
  refine lv_iconst (v := 4) hx hb (fk_get fk_cX9_readOne_0 1 rfl) (by decide) ?_
  refine lv_icmp_ge (tgt := 40) hx hb (fk_get fk_cX9_readOne_0 2 rfl) (by decide) (fun c_1 => absurd c_1 ((by decide))) (fun _ => ?_)
  refine lv_aload_n hx hb (fk_get fk_cX9_readOne_0 3 rfl) rfl (lv_at hl 0 rfl) ?_
  refine lv_bipush (v := 33) hx hb (fk_get fk_cX9_readOne_0 4 rfl) (by decide) ?_
  have hFc := va_self hD hS hA
  refine va_calli (va_runV (As := [.int (33)]) (rest := []) ⟨hx, hb, hml, hown, hT⟩ (c_x9_takesE l G ad S s.heap.size (z) (pz) (33) (τ) (by first | assumption | omega) (by first | assumption | omega) (by first | assumption | omega) (hX)) (tV 1 hT m2_213 m2_215 mp_0 m1_12 m2_216 rfl rfl (by decide +kernel) ⟨Nat.le_of_ble_eq_true rfl, Nat.le_of_ble_eq_true rfl⟩) ⟨PcW_blind, va_recv hK hP (ci := 11) (q0 := 57) rfl (ix_at (lt71 (by omega)) (cX_text G ad S)), PcW_of hP hK hD _⟩ rfl rfl hl.1 rfl (lv_room (Nat.le_of_ble_eq_true rfl)) (fk_get fk_cX9_readOne_0 5 rfl) ⟨Nat.zero_le _, Nat.zero_le _⟩) hS (fun q _ h => hFc q h) hFc (fun r_2 S_4 t_ H locs ht_ hvm_ hw_3 hB_ hz_ hk_ hS => ?_)
  obtain ⟨hP, -, hD1_⟩ := hB_
  rw [ht_] at hP
  have hD : va_D A (wX G ad S_4) := hD1_.weaken (fun k q _ h => hFc q.1 h)
  try dsimp only at hw_3
  obtain ⟨hX_5, hF_6_, hw_3⟩ := hw_3
  have hF_6 : Fr (fun j k => (j = 57 ∧ (k = 2 ∨ k = 7 ∨ k = 8)) ∨ ((j = 59 ∨ j = 60) ∧ k = 99)) S S_4 := Fr.trans (Fr.rf : Fr (fun j k => (j = 57 ∧ (k = 2 ∨ k = 7 ∨ k = 8)) ∨ ((j = 59 ∨ j = 60) ∧ k = 99)) S S) (Fr.mono hF_6_ (fun j k h => by omega))
  have hK8 := hw_3
  have hf8 := hF_6_
  have hT8 := hTx.fr hF_6_ (fun q => by omega) (fun q => by omega)
  have hc8 := (Fr.F hF_6_ (j := 57) (k := 7) (lt71 (by omega)) (fun q => by omega)).trans hc
  refine lv_if_eq (tgt := 40) hx hb (fk_get fk_cX9_readOne_0 6 rfl) (by decide) (fun c_7 => ?_) (fun c_7 => ?_)
  · obtain ⟨n33, hp8⟩ := tk_n hK8 c_7
    refine lv_iload_n hx hb (fk_get fk_cX9_readOne_0 22 rfl) rfl (lv_at hl 1 rfl) ?_
    refine lv_iconst (v := 4) hx hb (fk_get fk_cX9_readOne_0 23 rfl) (by decide) ?_
    refine lv_icmp_ge (tgt := 79) hx hb (fk_get fk_cX9_readOne_0 24 rfl) (by decide) (fun c_8 => absurd c_8 ((by decide))) (fun _ => ?_)
    refine lv_aload_n hx hb (fk_get fk_cX9_readOne_0 25 rfl) rfl (lv_at hl 0 rfl) ?_
    refine lv_bipush (v := 40) hx hb (fk_get fk_cX9_readOne_0 26 rfl) (by decide) ?_
    have hFc := va_self hD hS hA
    refine va_calli (va_runV (As := [.int (40)]) (rest := []) ⟨hx, hb, hml, hown, hT⟩ (c_x9_takesE l G ad S_4 H.size (z) (pz) (40) (τ) (by first | assumption | omega) (by first | assumption | omega) (by first | assumption | omega) (hX_5)) (tV 1 hT m2_213 m2_215 mp_0 m1_12 m2_216 rfl rfl (by decide +kernel) ⟨Nat.le_of_ble_eq_true rfl, Nat.le_of_ble_eq_true rfl⟩) ⟨PcW_blind, va_recv hK hP (ci := 11) (q0 := 57) rfl (ix_at (lt71 (by omega)) (cX_text G ad S_4)), PcW_of hP hK hD _⟩ rfl rfl hl.1 rfl (lv_room (Nat.le_of_ble_eq_true rfl)) (fk_get fk_cX9_readOne_0 27 rfl) ⟨Nat.zero_le _, Nat.zero_le _⟩) hS (fun q _ h => hFc q h) hFc (fun r_9 S_11 t_ H locs ht_ hvm_ hw_10 hB_ hz_ hk_ hS => ?_)
    obtain ⟨hP, -, hD1_⟩ := hB_
    rw [ht_] at hP
    have hD : va_D A (wX G ad S_11) := hD1_.weaken (fun k q _ h => hFc q.1 h)
    try dsimp only at hw_10
    obtain ⟨hX_12, hF_13_, hw_10⟩ := hw_10
    have hF_13 : Fr (fun j k => (j = 57 ∧ (k = 2 ∨ k = 7 ∨ k = 8)) ∨ ((j = 59 ∨ j = 60) ∧ k = 99)) S S_11 := Fr.trans hF_6 (Fr.mono hF_13_ (fun j k h => by omega))
    have hK48 := hw_10
    have hf48 := hF_13_
    have hT48 := hT8.fr hF_13_ (fun q => by omega) (fun q => by omega)
    have hc48 := (Fr.F hF_13_ (j := 57) (k := 7) (lt71 (by omega)) (fun q => by omega)).trans hc8
    refine lv_if_eq (tgt := 79) hx hb (fk_get fk_cX9_readOne_0 28 rfl) (by decide) (fun c_14 => ?_) (fun c_14 => ?_)
    · obtain ⟨n40, hp48⟩ := tk_n hK48 c_14
      refine lv_aload_n hx hb (fk_get fk_cX9_readOne_1 11 rfl) rfl (lv_at hl 0 rfl) ?_
      refine va_ldcS (q := G.2.2.2 (310 + 4)) (tx := txS 4) hx hb hown (hE.2.2.2.2.1.2 4 (by omega)) (fk_get fk_cX9_readOne_1 12 rfl) ?_
      have hFc := va_self hD hS hA
      refine va_calli (va_runV (As := [.ref (G.2.2.2 (310 + 4))]) (rest := []) ⟨hx, hb, hml, hown, hT⟩ (c_x9_tooE l G ad S_11 H.size (4) (z) (pz) (τ) ((by omega : 4 < 6)) (by first | assumption | omega) (by first | assumption | omega) (by first | assumption | omega) (hX_12)) (tV 1 hT m3_73 m3_75 mp_10 m1_12 m3_76 rfl rfl (by decide +kernel) ⟨Nat.le_of_ble_eq_true rfl, Nat.le_of_ble_eq_true rfl⟩) ⟨PcE_blind, va_recv hK hP (ci := 11) (q0 := 57) rfl (ix_at (lt71 (by omega)) (cX_text G ad S_11)), PcE_of hP hK hD hE hS (fun q h => hFc q h) _⟩ rfl rfl hl.1 rfl (lv_room (Nat.le_of_ble_eq_true rfl)) (fk_get fk_cX9_readOne_1 13 rfl) ⟨Nat.zero_le _, Nat.zero_le _⟩) hS (fun q _ h => hFc q h) hFc (fun r_15 S_17 t_ H locs ht_ hvm_ hw_16 hB_ hz_ hk_ hS => ?_)
      obtain ⟨hP, -, hD1_⟩ := hB_
      rw [ht_] at hP
      have hD : va_D A (wX G ad S_17) := hD1_.weaken (fun k q _ h => hFc q.1 h)
      try dsimp only at hw_16
      obtain ⟨hX_18, hF_19_, hw_16⟩ := hw_16
      have hF_19 : Fr (fun j k => (j = 57 ∧ (k = 2 ∨ k = 7 ∨ k = 8)) ∨ ((j = 59 ∨ j = 60) ∧ k = 99)) S S_17 := Fr.trans hF_13 (Fr.mono hF_19_ (fun j k h => by omega))
      have hK82 := hw_16
      have hf82 := hF_19_
      have hT82 := hT48.fr hF_19_ (fun q => by omega) (fun q => by omega)
      have hc82 := (Fr.F hF_19_ (j := 57) (k := 7) (lt71 (by omega)) (fun q => by omega)).trans hc48
      have hl82 := hK82.1.1 rfl
      subst hl82
      refine lv_istore_n (lv' := [(2, .int ((lix (τ pz)))), (0, .ref (ad 57)), (1, .int (1))]) hx hb (fk_get fk_cX9_readOne_1 14 rfl) rfl hl (by decide) rfl (fun ls hl => ?_)
      refine lv_iload_n hx hb (fk_get fk_cX9_readOne_1 15 rfl) rfl (lv_at hl 0 rfl) ?_
      refine lv_if_ge (tgt := 94) hx hb (fk_get fk_cX9_readOne_1 16 rfl) (by decide) (fun c_20 => ?_) (fun c_20 => ?_)
      · have hn82 : ¬ lix (τ pz) < 0 := Int32.not_lt.mpr c_20
        have hz82 := hTx.lt rfl (lix_ne hn82)
        have hp82 := (hK82.2.resolve_left (fun q => hn82 q.1)).2
        refine lv_aload_n hx hb (fk_get fk_cX9_readOne_1 19 rfl) rfl (lv_at hl 1 rfl) ?_
        refine va_ldcS (q := G.2.2.2 (310 + 5)) (tx := txS 5) hx hb hown (hE.2.2.2.2.1.2 5 (by omega)) (fk_get fk_cX9_readOne_1 20 rfl) ?_
        have hFc := va_self hD hS hA
        refine va_calli (va_runV (As := [.ref (G.2.2.2 (310 + 5))]) (rest := []) ⟨hx, hb, hml, hown, hT⟩ (c_x9_tooE l G ad S_17 H.size (5) (z) (pz + 1) (τ) ((by omega : 5 < 6)) (by first | assumption | omega) (by first | assumption | omega) (by first | assumption | omega) (hX_18)) (tV 1 hT m3_73 m3_75 mp_10 m1_12 m3_76 rfl rfl (by decide +kernel) ⟨Nat.le_of_ble_eq_true rfl, Nat.le_of_ble_eq_true rfl⟩) ⟨PcE_blind, va_recv hK hP (ci := 11) (q0 := 57) rfl (ix_at (lt71 (by omega)) (cX_text G ad S_17)), PcE_of hP hK hD hE hS (fun q h => hFc q h) _⟩ rfl rfl hl.1 rfl (lv_room (Nat.le_of_ble_eq_true rfl)) (fk_get fk_cX9_readOne_1 21 rfl) ⟨Nat.zero_le _, Nat.zero_le _⟩) hS (fun q _ h => hFc q h) hFc (fun r_21 S_23 t_ H locs ht_ hvm_ hw_22 hB_ hz_ hk_ hS => ?_)
        obtain ⟨hP, -, hD1_⟩ := hB_
        rw [ht_] at hP
        have hD : va_D A (wX G ad S_23) := hD1_.weaken (fun k q _ h => hFc q.1 h)
        try dsimp only at hw_22
        obtain ⟨hX_24, hF_25_, hw_22⟩ := hw_22
        have hF_25 : Fr (fun j k => (j = 57 ∧ (k = 2 ∨ k = 7 ∨ k = 8)) ∨ ((j = 59 ∨ j = 60) ∧ k = 99)) S S_23 := Fr.trans hF_19 (Fr.mono hF_25_ (fun j k h => by omega))
        have hK97 := hw_22
        have hf97 := hF_25_
        have hT97 := hT82.fr hF_25_ (fun q => by omega) (fun q => by omega)
        have hc97 := (Fr.F hF_25_ (j := 57) (k := 7) (lt71 (by omega)) (fun q => by omega)).trans hc82
        have hl97 := hK97.1.2 rfl
        subst hl97
        refine lv_istore_n (lv' := [(3, .int ((cix (τ (pz + 1))))), (2, .int ((lix (τ pz)))), (0, .ref (ad 57)), (1, .int (1))]) hx hb (fk_get fk_cX9_readOne_1 22 rfl) rfl hl (by decide) rfl (fun ls hl => ?_)
        refine lv_iload_n hx hb (fk_get fk_cX9_readOne_1 23 rfl) rfl (lv_at hl 0 rfl) ?_
        refine lv_if_lt (tgt := 132) hx hb (fk_get fk_cX9_readOne_1 24 rfl) (by decide) (fun c_26 => ?_) (fun c_26 => ?_)
        · try have hn97 : cix (τ (pz + 1)) < 0 := by assumption
          try have hp97 := (hK97.2.resolve_right (fun q => q.1 hn97)).2
          refine lv_iconst (v := 0) hx hb (fk_get fk_cX9_readOne_2 8 rfl) (by decide) ?_
          subst hQ
          have hpost : XI S_23 ∧ Fr (fun j k => (j = 57 ∧ (k = 2 ∨ k = 7 ∨ k = 8)) ∨ ((j = 59 ∨ j = 60) ∧ k = 99)) S S_23 ∧ RdP (oneP cdA τ 3 pz) c (0 : Int32) S S_23 := by
            exact ⟨hX_24, hF_25, by first | exact rd_1 ((one_33 (d := 2) h33).trans (thn_s e18)) hp28 ((hC18.base hf8 (fun q => by omega) (fun q => by omega)).put hP28) | exact rd_0 ((one_33 (d := 2) h33).trans (thn_n e18)) hp18 | exact rd_1 ((one_40 (d := 2) n33 h40).trans ((thn_s e58).trans (if_pos h41))) hp67 (((hC58.base hf48 (fun q => by omega) (fun q => by omega)).base hf8 (fun q => by omega) (fun q => by omega)).keep hf67 (fun q => by omega) (fun q => by omega) (fun q => by omega)) | exact rd_0 ((one_40 (d := 2) n33 h40).trans ((thn_s e58).trans (if_neg n41))) hp67 | exact rd_0 ((one_40 (d := 2) n33 h40).trans (thn_n e58)) hp58 | exact rd_0 ((one_t (d := 2) n33 n40).trans (tst_0 hn82)) hp82 | exact rd_0 ((one_t (d := 2) n33 n40).trans (tst_1 hn82 hn97)) hp97 | exact rd_0 ((one_t (d := 2) n33 n40).trans ((tst_2 hn82 hn97).trans (thn_n e106))) hp106 | exact rd_1 ((one_t (d := 2) n33 n40).trans ((tst_2 hn82 hn97).trans (thn_s e106))) hp122 (((((((CdP.nil hc).keep hf8 (fun q => by omega) (fun q => by omega) (fun q => by omega)).keep hf48 (fun q => by omega) (fun q => by omega) (fun q => by omega)).keep hf82 (fun q => by omega) (fun q => by omega) (fun q => by omega)).keep hf97 (fun q => by omega) (fun q => by omega) (fun q => by omega)).keep hf106 (fun q => by omega) (fun q => by omega) (fun q => by omega)).put hP122)⟩
          exact W.zret (v := 0) hx hb hr rfl (fun t_ ht_ hW_ => ⟨⟨0, S_23, rfl, hpost, by rw [ht_]; exact hP, va_K.moved hW_.alike hK, hD⟩, hS.F ht_⟩) hS.2.2 (fk_get fk_cX9_readOne_2 9 rfl)
        have hn97 : ¬ cix (τ (pz + 1)) < 0 := by first | assumption | exact Int32.not_lt.mpr c_26
        have hz97 := hTx.lt rfl (cix_ne hn97)
        have hp97 : fF S_23 57 2 = nI (pz + 2) := (hK97.2.resolve_left (fun q => hn97 q.1)).2
        refine lv_aload_n hx hb (fk_get fk_cX9_readOne_1 25 rfl) rfl (lv_at hl 2 rfl) ?_
        have hFc := va_self hD hS hA
        refine va_calli (va_runV (As := []) (rest := []) ⟨hx, hb, hml, hown, hT⟩ (c_x9_numE l G ad S_23 H.size (z) (pz + 2) (τ) (by first | assumption | omega) (by first | assumption | omega) (by first | assumption | omega) (hX_24)) (tV 0 hT m3_49 m3_51 mp_5 m1_12 m3_52 rfl rfl (by decide +kernel) ⟨Nat.le_of_ble_eq_true rfl, Nat.le_of_ble_eq_true rfl⟩) ⟨PcW_blind, va_recv hK hP (ci := 11) (q0 := 57) rfl (ix_at (lt71 (by omega)) (cX_text G ad S_23)), PcW_of hP hK hD _⟩ rfl rfl hl.1 rfl (lv_room (Nat.le_of_ble_eq_true rfl)) (fk_get fk_cX9_readOne_1 26 rfl) ⟨Nat.zero_le _, Nat.zero_le _⟩) hS (fun q _ h => hFc q h) hFc (fun r_27 S_29 t_ H locs ht_ hvm_ hw_28 hB_ hz_ hk_ hS => ?_)
        obtain ⟨hP, -, hD1_⟩ := hB_
        rw [ht_] at hP
        have hD : va_D A (wX G ad S_29) := hD1_.weaken (fun k q _ h => hFc q.1 h)
        try dsimp only at hw_28
        obtain ⟨hX_30, hF_31_, hw_28⟩ := hw_28
        have hF_31 : Fr (fun j k => (j = 57 ∧ (k = 2 ∨ k = 7 ∨ k = 8)) ∨ ((j = 59 ∨ j = 60) ∧ k = 99)) S S_29 := Fr.trans hF_25 (Fr.mono hF_31_ (fun j k h => by omega))
        have hK106 := hw_28
        have hf106 := hF_31_
        have hT106 := hT97.fr hF_31_ (fun q => by omega) (fun q => by omega)
        have hc106 := (Fr.F hF_31_ (j := 57) (k := 7) (lt71 (by omega)) (fun q => by omega)).trans hc97
        refine lv_if_eq (tgt := 132) hx hb (fk_get fk_cX9_readOne_1 27 rfl) (by decide) (fun c_32 => ?_) (fun c_32 => ?_)
        · obtain ⟨e106, hp106⟩ := nu_n hK106 c_32
          refine lv_iconst (v := 0) hx hb (fk_get fk_cX9_readOne_2 8 rfl) (by decide) ?_
          subst hQ
          have hpost : XI S_29 ∧ Fr (fun j k => (j = 57 ∧ (k = 2 ∨ k = 7 ∨ k = 8)) ∨ ((j = 59 ∨ j = 60) ∧ k = 99)) S S_29 ∧ RdP (oneP cdA τ 3 pz) c (0 : Int32) S S_29 := by
            exact ⟨hX_30, hF_31, by first | exact rd_1 ((one_33 (d := 2) h33).trans (thn_s e18)) hp28 ((hC18.base hf8 (fun q => by omega) (fun q => by omega)).put hP28) | exact rd_0 ((one_33 (d := 2) h33).trans (thn_n e18)) hp18 | exact rd_1 ((one_40 (d := 2) n33 h40).trans ((thn_s e58).trans (if_pos h41))) hp67 (((hC58.base hf48 (fun q => by omega) (fun q => by omega)).base hf8 (fun q => by omega) (fun q => by omega)).keep hf67 (fun q => by omega) (fun q => by omega) (fun q => by omega)) | exact rd_0 ((one_40 (d := 2) n33 h40).trans ((thn_s e58).trans (if_neg n41))) hp67 | exact rd_0 ((one_40 (d := 2) n33 h40).trans (thn_n e58)) hp58 | exact rd_0 ((one_t (d := 2) n33 n40).trans (tst_0 hn82)) hp82 | exact rd_0 ((one_t (d := 2) n33 n40).trans (tst_1 hn82 hn97)) hp97 | exact rd_0 ((one_t (d := 2) n33 n40).trans ((tst_2 hn82 hn97).trans (thn_n e106))) hp106 | exact rd_1 ((one_t (d := 2) n33 n40).trans ((tst_2 hn82 hn97).trans (thn_s e106))) hp122 (((((((CdP.nil hc).keep hf8 (fun q => by omega) (fun q => by omega) (fun q => by omega)).keep hf48 (fun q => by omega) (fun q => by omega) (fun q => by omega)).keep hf82 (fun q => by omega) (fun q => by omega) (fun q => by omega)).keep hf97 (fun q => by omega) (fun q => by omega) (fun q => by omega)).keep hf106 (fun q => by omega) (fun q => by omega) (fun q => by omega)).put hP122)⟩
          exact W.zret (v := 0) hx hb hr rfl (fun t_ ht_ hW_ => ⟨⟨0, S_29, rfl, hpost, by rw [ht_]; exact hP, va_K.moved hW_.alike hK, hD⟩, hS.F ht_⟩) hS.2.2 (fk_get fk_cX9_readOne_2 9 rfl)
        obtain ⟨v106, e106, hp106, hv106⟩ := nu_y hK106 c_32
        obtain ⟨g1, g2, g3⟩ := hTx.num (p := pz + 2) (by omega)
        have g4 := g3 (by rw [e106]; exact fun q => by cases q)
        refine lv_aload_n hx hb (fk_get fk_cX9_readOne_1 28 rfl) rfl (lv_at hl 2 rfl) ?_
        refine lv_iload_n hx hb (fk_get fk_cX9_readOne_1 29 rfl) rfl (lv_at hl 1 rfl) ?_
        refine lv_iconst (v := 3) hx hb (fk_get fk_cX9_readOne_1 30 rfl) (by decide) ?_
        refine lv_imul hx hb (fk_get fk_cX9_readOne_1 31 rfl) ?_
        refine lv_iload_n hx hb (fk_get fk_cX9_readOne_2 0 rfl) rfl (lv_at hl 0 rfl) ?_
        refine lv_iadd hx hb (fk_get fk_cX9_readOne_2 1 rfl) ?_
        refine lv_aload_n hx hb (fk_get fk_cX9_readOne_2 2 rfl) rfl (lv_at hl 2 rfl) ?_
        refine va_get (D := G.1) (ci := 11) (v := .int (fF S_29 57 8)) (C := RX9) (T := TX9) (N := 9) hx hb hT inX9 hown hK hP 57 (ix_at (lt71 (by omega)) (cX_text G ad S_29)) rfl 8 (by decide) (hT _ m2_17) (fun _ h9 => h9) rfl (fk_get fk_cX9_readOne_2 3 rfl) ?_
        rw [show (fF S_29 57 8) = v106 from hv106]
        have hFc := va_self hD hS hA
        refine va_calli (va_runV (As := [.int ((((lix (τ pz)) * 3) + (cix (τ (pz + 1))))), .int (v106)]) (rest := []) ⟨hx, hb, hml, hown, hT⟩ (c_x9_putE l G ad S_29 H.size (c) ((((lix (τ pz)) * 3) + (cix (τ (pz + 1))))) (v106) (by first | assumption | omega) (by first | assumption | omega) (hX_30)) (tV 2 hT m3_68 m3_70 mp_9 m1_12 m3_71 rfl rfl (by decide +kernel) ⟨Nat.le_of_ble_eq_true rfl, Nat.le_of_ble_eq_true rfl⟩) ⟨PcW_blind, va_recv hK hP (ci := 11) (q0 := 57) rfl (ix_at (lt71 (by omega)) (cX_text G ad S_29)), PcW_of hP hK hD _⟩ rfl rfl hl.1 rfl (lv_room (Nat.le_of_ble_eq_true rfl)) (fk_get fk_cX9_readOne_2 4 rfl) ⟨Nat.zero_le _, Nat.zero_le _⟩) hS (fun q _ h => hFc q h) hFc (fun r_33 S_35 t_ H locs ht_ hvm_ hw_34 hB_ hz_ hk_ hS => ?_)
        obtain ⟨hP, -, hD1_⟩ := hB_
        rw [ht_] at hP
        have hD : va_D A (wX G ad S_35) := hD1_.weaken (fun k q _ h => hFc q.1 h)
        try dsimp only at hw_34
        obtain ⟨hX_36, hF_37_, hw_34⟩ := hw_34
        have hF_37 : Fr (fun j k => (j = 57 ∧ (k = 2 ∨ k = 7 ∨ k = 8)) ∨ ((j = 59 ∨ j = 60) ∧ k = 99)) S S_35 := Fr.trans hF_31 (Fr.mono hF_37_ (fun j k h => by omega))
        obtain ⟨e_, hP122⟩ := hw_34
        subst e_
        have hp122 := (Fr.F hF_37_ (j := 57) (k := 2) (lt71 (by omega)) (fun q => by omega)).trans hp106
        refine lv_if_eq (tgt := 132) hx hb (fk_get fk_cX9_readOne_2 5 rfl) (by decide) (fun c_38 => absurd c_38 ((by decide))) (fun _ => ?_)
        refine lv_iconst (v := 1) hx hb (fk_get fk_cX9_readOne_2 6 rfl) (by decide) ?_
        refine lv_goto (tgt := 133) hx hb (fk_get fk_cX9_readOne_2 7 rfl) (by decide) ?_
        subst hQ
        have hpost : XI S_35 ∧ Fr (fun j k => (j = 57 ∧ (k = 2 ∨ k = 7 ∨ k = 8)) ∨ ((j = 59 ∨ j = 60) ∧ k = 99)) S S_35 ∧ RdP (oneP cdA τ 3 pz) c (1 : Int32) S S_35 := by
          exact ⟨hX_36, hF_37, by first | exact rd_1 ((one_33 (d := 2) h33).trans (thn_s e18)) hp28 ((hC18.base hf8 (fun q => by omega) (fun q => by omega)).put hP28) | exact rd_0 ((one_33 (d := 2) h33).trans (thn_n e18)) hp18 | exact rd_1 ((one_40 (d := 2) n33 h40).trans ((thn_s e58).trans (if_pos h41))) hp67 (((hC58.base hf48 (fun q => by omega) (fun q => by omega)).base hf8 (fun q => by omega) (fun q => by omega)).keep hf67 (fun q => by omega) (fun q => by omega) (fun q => by omega)) | exact rd_0 ((one_40 (d := 2) n33 h40).trans ((thn_s e58).trans (if_neg n41))) hp67 | exact rd_0 ((one_40 (d := 2) n33 h40).trans (thn_n e58)) hp58 | exact rd_0 ((one_t (d := 2) n33 n40).trans (tst_0 hn82)) hp82 | exact rd_0 ((one_t (d := 2) n33 n40).trans (tst_1 hn82 hn97)) hp97 | exact rd_0 ((one_t (d := 2) n33 n40).trans ((tst_2 hn82 hn97).trans (thn_n e106))) hp106 | exact rd_1 ((one_t (d := 2) n33 n40).trans ((tst_2 hn82 hn97).trans (thn_s e106))) hp122 (((((((CdP.nil hc).keep hf8 (fun q => by omega) (fun q => by omega) (fun q => by omega)).keep hf48 (fun q => by omega) (fun q => by omega) (fun q => by omega)).keep hf82 (fun q => by omega) (fun q => by omega) (fun q => by omega)).keep hf97 (fun q => by omega) (fun q => by omega) (fun q => by omega)).keep hf106 (fun q => by omega) (fun q => by omega) (fun q => by omega)).put hP122)⟩
        exact W.zret (v := 1) hx hb hr rfl (fun t_ ht_ hW_ => ⟨⟨1, S_35, rfl, hpost, by rw [ht_]; exact hP, va_K.moved hW_.alike hK, hD⟩, hS.F ht_⟩) hS.2.2 (fk_get fk_cX9_readOne_2 9 rfl)
      have hn82 : lix (τ pz) < 0 := Int32.not_le.mp c_20
      have hp82 := (hK82.2.resolve_right (fun q => q.1 hn82)).2
      refine lv_iload_n hx hb (fk_get fk_cX9_readOne_1 17 rfl) rfl (lv_at hl 0 rfl) ?_
      refine lv_goto (tgt := 100) hx hb (fk_get fk_cX9_readOne_1 18 rfl) (by decide) ?_
      refine lv_istore_n (lv' := [(3, .int ((lix (τ pz)))), (2, .int ((lix (τ pz)))), (0, .ref (ad 57)), (1, .int (1))]) hx hb (fk_get fk_cX9_readOne_1 22 rfl) rfl hl (by decide) rfl (fun ls hl => ?_)
      refine lv_iload_n hx hb (fk_get fk_cX9_readOne_1 23 rfl) rfl (lv_at hl 0 rfl) ?_
      refine lv_if_lt (tgt := 132) hx hb (fk_get fk_cX9_readOne_1 24 rfl) (by decide) (fun _ => ?_) (fun c_39 => absurd (by first | assumption | exact Int32.not_lt.mp (by assumption) | exact Int32.not_le.mp (by assumption) | exact Int32.not_lt.mpr (by assumption) | exact Int32.not_le.mpr (by assumption) ) c_39)
      try have hn97 : cix (τ (pz + 1)) < 0 := by assumption
      try have hp97 := (hK97.2.resolve_right (fun q => q.1 hn97)).2
      refine lv_iconst (v := 0) hx hb (fk_get fk_cX9_readOne_2 8 rfl) (by decide) ?_
      subst hQ
      have hpost : XI S_17 ∧ Fr (fun j k => (j = 57 ∧ (k = 2 ∨ k = 7 ∨ k = 8)) ∨ ((j = 59 ∨ j = 60) ∧ k = 99)) S S_17 ∧ RdP (oneP cdA τ 3 pz) c (0 : Int32) S S_17 := by
        exact ⟨hX_18, hF_19, by first | exact rd_1 ((one_33 (d := 2) h33).trans (thn_s e18)) hp28 ((hC18.base hf8 (fun q => by omega) (fun q => by omega)).put hP28) | exact rd_0 ((one_33 (d := 2) h33).trans (thn_n e18)) hp18 | exact rd_1 ((one_40 (d := 2) n33 h40).trans ((thn_s e58).trans (if_pos h41))) hp67 (((hC58.base hf48 (fun q => by omega) (fun q => by omega)).base hf8 (fun q => by omega) (fun q => by omega)).keep hf67 (fun q => by omega) (fun q => by omega) (fun q => by omega)) | exact rd_0 ((one_40 (d := 2) n33 h40).trans ((thn_s e58).trans (if_neg n41))) hp67 | exact rd_0 ((one_40 (d := 2) n33 h40).trans (thn_n e58)) hp58 | exact rd_0 ((one_t (d := 2) n33 n40).trans (tst_0 hn82)) hp82 | exact rd_0 ((one_t (d := 2) n33 n40).trans (tst_1 hn82 hn97)) hp97 | exact rd_0 ((one_t (d := 2) n33 n40).trans ((tst_2 hn82 hn97).trans (thn_n e106))) hp106 | exact rd_1 ((one_t (d := 2) n33 n40).trans ((tst_2 hn82 hn97).trans (thn_s e106))) hp122 (((((((CdP.nil hc).keep hf8 (fun q => by omega) (fun q => by omega) (fun q => by omega)).keep hf48 (fun q => by omega) (fun q => by omega) (fun q => by omega)).keep hf82 (fun q => by omega) (fun q => by omega) (fun q => by omega)).keep hf97 (fun q => by omega) (fun q => by omega) (fun q => by omega)).keep hf106 (fun q => by omega) (fun q => by omega) (fun q => by omega)).put hP122)⟩
      exact W.zret (v := 0) hx hb hr rfl (fun t_ ht_ hW_ => ⟨⟨0, S_17, rfl, hpost, by rw [ht_]; exact hP, va_K.moved hW_.alike hK, hD⟩, hS.F ht_⟩) hS.2.2 (fk_get fk_cX9_readOne_2 9 rfl)
    obtain ⟨h40, hp48⟩ := tk_y hK48 c_14
    have hz40 := hTx.lt h40 (by decide)
    refine lv_aload_n hx hb (fk_get fk_cX9_readOne_0 29 rfl) rfl (lv_at hl 0 rfl) ?_
    refine lv_iload_n hx hb (fk_get fk_cX9_readOne_0 30 rfl) rfl (lv_at hl 1 rfl) ?_
    refine lv_iconst (v := 1) hx hb (fk_get fk_cX9_readOne_0 31 rfl) (by decide) ?_
    refine lv_iadd hx hb (fk_get fk_cX9_readOne_1 0 rfl) ?_
    rw [show ((1 + 1) : Int32) = 2 from by decide]
    have hFc := va_self hD hS hA
    refine va_calli (va_runV (As := [.int (2)]) (rest := []) ⟨hx, hb, hml, hown, hT⟩ (c_x9_any2E l G ad S_11 H.size (z) (pz + 1) (c) (τ) (by first | assumption | omega) (by first | assumption | omega) (by first | assumption | omega) (by first | assumption | omega) (by first | assumption | omega) (hX_12)) (tV 1 hT m3_56 m3_58 mp_6 m1_12 m3_59 rfl rfl (by decide +kernel) ⟨Nat.le_of_ble_eq_true rfl, Nat.le_of_ble_eq_true rfl⟩) ⟨PcE_blind, va_recv hK hP (ci := 11) (q0 := 57) rfl (ix_at (lt71 (by omega)) (cX_text G ad S_11)), PcE_of hP hK hD hE hS (fun q h => hFc q h) _⟩ rfl rfl hl.1 rfl (lv_room (Nat.le_of_ble_eq_true rfl)) (fk_get fk_cX9_readOne_1 1 rfl) ⟨Nat.zero_le _, Nat.zero_le _⟩) hS (fun q _ h => hFc q h) hFc (fun r_40 S_42 t_ H locs ht_ hvm_ hw_41 hB_ hz_ hk_ hS => ?_)
    obtain ⟨hP, -, hD1_⟩ := hB_
    rw [ht_] at hP
    have hD : va_D A (wX G ad S_42) := hD1_.weaken (fun k q _ h => hFc q.1 h)
    try dsimp only at hw_41
    obtain ⟨hX_43, hF_44_, hw_41⟩ := hw_41
    have hF_44 : Fr (fun j k => (j = 57 ∧ (k = 2 ∨ k = 7 ∨ k = 8)) ∨ ((j = 59 ∨ j = 60) ∧ k = 99)) S S_42 := Fr.trans hF_13 (Fr.mono hF_44_ (fun j k h => by omega))
    have hK58 := hw_41
    have hf58 := hF_44_
    have hT58 := hT48.fr hF_44_ (fun q => by omega) (fun q => by omega)
    refine lv_if_eq (tgt := 77) hx hb (fk_get fk_cX9_readOne_1 2 rfl) (by decide) (fun c_45 => ?_) (fun c_45 => ?_)
    · obtain ⟨e58, hp58⟩ := rd_n hK58 c_45
      refine lv_iconst (v := 0) hx hb (fk_get fk_cX9_readOne_1 9 rfl) (by decide) ?_
      subst hQ
      have hpost : XI S_42 ∧ Fr (fun j k => (j = 57 ∧ (k = 2 ∨ k = 7 ∨ k = 8)) ∨ ((j = 59 ∨ j = 60) ∧ k = 99)) S S_42 ∧ RdP (oneP cdA τ 3 pz) c (0 : Int32) S S_42 := by
        exact ⟨hX_43, hF_44, by first | exact rd_1 ((one_33 (d := 2) h33).trans (thn_s e18)) hp28 ((hC18.base hf8 (fun q => by omega) (fun q => by omega)).put hP28) | exact rd_0 ((one_33 (d := 2) h33).trans (thn_n e18)) hp18 | exact rd_1 ((one_40 (d := 2) n33 h40).trans ((thn_s e58).trans (if_pos h41))) hp67 (((hC58.base hf48 (fun q => by omega) (fun q => by omega)).base hf8 (fun q => by omega) (fun q => by omega)).keep hf67 (fun q => by omega) (fun q => by omega) (fun q => by omega)) | exact rd_0 ((one_40 (d := 2) n33 h40).trans ((thn_s e58).trans (if_neg n41))) hp67 | exact rd_0 ((one_40 (d := 2) n33 h40).trans (thn_n e58)) hp58 | exact rd_0 ((one_t (d := 2) n33 n40).trans (tst_0 hn82)) hp82 | exact rd_0 ((one_t (d := 2) n33 n40).trans (tst_1 hn82 hn97)) hp97 | exact rd_0 ((one_t (d := 2) n33 n40).trans ((tst_2 hn82 hn97).trans (thn_n e106))) hp106 | exact rd_1 ((one_t (d := 2) n33 n40).trans ((tst_2 hn82 hn97).trans (thn_s e106))) hp122 (((((((CdP.nil hc).keep hf8 (fun q => by omega) (fun q => by omega) (fun q => by omega)).keep hf48 (fun q => by omega) (fun q => by omega) (fun q => by omega)).keep hf82 (fun q => by omega) (fun q => by omega) (fun q => by omega)).keep hf97 (fun q => by omega) (fun q => by omega) (fun q => by omega)).keep hf106 (fun q => by omega) (fun q => by omega) (fun q => by omega)).put hP122)⟩
      exact W.zret (v := 0) hx hb hr rfl (fun t_ ht_ hW_ => ⟨⟨0, S_42, rfl, hpost, by rw [ht_]; exact hP, va_K.moved hW_.alike hK, hD⟩, hS.F ht_⟩) hS.2.2 (fk_get fk_cX9_readOne_1 10 rfl)
    obtain ⟨L58, e58, hp58, hC58⟩ := rd_y hK58 c_45
    obtain ⟨g1, g2, g3⟩ := hTx.any 2 (pz + 1) (by omega)
    have g4 := g3 L58 e58
    refine lv_aload_n hx hb (fk_get fk_cX9_readOne_1 3 rfl) rfl (lv_at hl 0 rfl) ?_
    refine lv_bipush (v := 41) hx hb (fk_get fk_cX9_readOne_1 4 rfl) (by decide) ?_
    have hFc := va_self hD hS hA
    refine va_calli (va_runV (As := [.int (41)]) (rest := []) ⟨hx, hb, hml, hown, hT⟩ (c_x9_takesE l G ad S_42 H.size (z) ((anyP cdA (oneP cdA τ 2) τ (pz + 1)).2) (41) (τ) (by first | assumption | omega) (by first | assumption | omega) (by first | assumption | omega) (hX_43)) (tV 1 hT m2_213 m2_215 mp_0 m1_12 m2_216 rfl rfl (by decide +kernel) ⟨Nat.le_of_ble_eq_true rfl, Nat.le_of_ble_eq_true rfl⟩) ⟨PcW_blind, va_recv hK hP (ci := 11) (q0 := 57) rfl (ix_at (lt71 (by omega)) (cX_text G ad S_42)), PcW_of hP hK hD _⟩ rfl rfl hl.1 rfl (lv_room (Nat.le_of_ble_eq_true rfl)) (fk_get fk_cX9_readOne_1 5 rfl) ⟨Nat.zero_le _, Nat.zero_le _⟩) hS (fun q _ h => hFc q h) hFc (fun r_46 S_48 t_ H locs ht_ hvm_ hw_47 hB_ hz_ hk_ hS => ?_)
    obtain ⟨hP, -, hD1_⟩ := hB_
    rw [ht_] at hP
    have hD : va_D A (wX G ad S_48) := hD1_.weaken (fun k q _ h => hFc q.1 h)
    try dsimp only at hw_47
    obtain ⟨hX_49, hF_50_, hw_47⟩ := hw_47
    have hF_50 : Fr (fun j k => (j = 57 ∧ (k = 2 ∨ k = 7 ∨ k = 8)) ∨ ((j = 59 ∨ j = 60) ∧ k = 99)) S S_48 := Fr.trans hF_44 (Fr.mono hF_50_ (fun j k h => by omega))
    have hK67 := hw_47
    have hf67 := hF_50_
    refine lv_if_eq (tgt := 77) hx hb (fk_get fk_cX9_readOne_1 6 rfl) (by decide) (fun c_51 => ?_) (fun c_51 => ?_)
    · obtain ⟨n41, hp67⟩ := tk_n hK67 c_51
      refine lv_iconst (v := 0) hx hb (fk_get fk_cX9_readOne_1 9 rfl) (by decide) ?_
      subst hQ
      have hpost : XI S_48 ∧ Fr (fun j k => (j = 57 ∧ (k = 2 ∨ k = 7 ∨ k = 8)) ∨ ((j = 59 ∨ j = 60) ∧ k = 99)) S S_48 ∧ RdP (oneP cdA τ 3 pz) c (0 : Int32) S S_48 := by
        exact ⟨hX_49, hF_50, by first | exact rd_1 ((one_33 (d := 2) h33).trans (thn_s e18)) hp28 ((hC18.base hf8 (fun q => by omega) (fun q => by omega)).put hP28) | exact rd_0 ((one_33 (d := 2) h33).trans (thn_n e18)) hp18 | exact rd_1 ((one_40 (d := 2) n33 h40).trans ((thn_s e58).trans (if_pos h41))) hp67 (((hC58.base hf48 (fun q => by omega) (fun q => by omega)).base hf8 (fun q => by omega) (fun q => by omega)).keep hf67 (fun q => by omega) (fun q => by omega) (fun q => by omega)) | exact rd_0 ((one_40 (d := 2) n33 h40).trans ((thn_s e58).trans (if_neg n41))) hp67 | exact rd_0 ((one_40 (d := 2) n33 h40).trans (thn_n e58)) hp58 | exact rd_0 ((one_t (d := 2) n33 n40).trans (tst_0 hn82)) hp82 | exact rd_0 ((one_t (d := 2) n33 n40).trans (tst_1 hn82 hn97)) hp97 | exact rd_0 ((one_t (d := 2) n33 n40).trans ((tst_2 hn82 hn97).trans (thn_n e106))) hp106 | exact rd_1 ((one_t (d := 2) n33 n40).trans ((tst_2 hn82 hn97).trans (thn_s e106))) hp122 (((((((CdP.nil hc).keep hf8 (fun q => by omega) (fun q => by omega) (fun q => by omega)).keep hf48 (fun q => by omega) (fun q => by omega) (fun q => by omega)).keep hf82 (fun q => by omega) (fun q => by omega) (fun q => by omega)).keep hf97 (fun q => by omega) (fun q => by omega) (fun q => by omega)).keep hf106 (fun q => by omega) (fun q => by omega) (fun q => by omega)).put hP122)⟩
      exact W.zret (v := 0) hx hb hr rfl (fun t_ ht_ hW_ => ⟨⟨0, S_48, rfl, hpost, by rw [ht_]; exact hP, va_K.moved hW_.alike hK, hD⟩, hS.F ht_⟩) hS.2.2 (fk_get fk_cX9_readOne_1 10 rfl)
    obtain ⟨h41, hp67⟩ := tk_y hK67 c_51
    refine lv_iconst (v := 1) hx hb (fk_get fk_cX9_readOne_1 7 rfl) (by decide) ?_
    refine lv_goto (tgt := 78) hx hb (fk_get fk_cX9_readOne_1 8 rfl) (by decide) ?_
    subst hQ
    have hpost : XI S_48 ∧ Fr (fun j k => (j = 57 ∧ (k = 2 ∨ k = 7 ∨ k = 8)) ∨ ((j = 59 ∨ j = 60) ∧ k = 99)) S S_48 ∧ RdP (oneP cdA τ 3 pz) c (1 : Int32) S S_48 := by
      exact ⟨hX_49, hF_50, by first | exact rd_1 ((one_33 (d := 2) h33).trans (thn_s e18)) hp28 ((hC18.base hf8 (fun q => by omega) (fun q => by omega)).put hP28) | exact rd_0 ((one_33 (d := 2) h33).trans (thn_n e18)) hp18 | exact rd_1 ((one_40 (d := 2) n33 h40).trans ((thn_s e58).trans (if_pos h41))) hp67 (((hC58.base hf48 (fun q => by omega) (fun q => by omega)).base hf8 (fun q => by omega) (fun q => by omega)).keep hf67 (fun q => by omega) (fun q => by omega) (fun q => by omega)) | exact rd_0 ((one_40 (d := 2) n33 h40).trans ((thn_s e58).trans (if_neg n41))) hp67 | exact rd_0 ((one_40 (d := 2) n33 h40).trans (thn_n e58)) hp58 | exact rd_0 ((one_t (d := 2) n33 n40).trans (tst_0 hn82)) hp82 | exact rd_0 ((one_t (d := 2) n33 n40).trans (tst_1 hn82 hn97)) hp97 | exact rd_0 ((one_t (d := 2) n33 n40).trans ((tst_2 hn82 hn97).trans (thn_n e106))) hp106 | exact rd_1 ((one_t (d := 2) n33 n40).trans ((tst_2 hn82 hn97).trans (thn_s e106))) hp122 (((((((CdP.nil hc).keep hf8 (fun q => by omega) (fun q => by omega) (fun q => by omega)).keep hf48 (fun q => by omega) (fun q => by omega) (fun q => by omega)).keep hf82 (fun q => by omega) (fun q => by omega) (fun q => by omega)).keep hf97 (fun q => by omega) (fun q => by omega) (fun q => by omega)).keep hf106 (fun q => by omega) (fun q => by omega) (fun q => by omega)).put hP122)⟩
    exact W.zret (v := 1) hx hb hr rfl (fun t_ ht_ hW_ => ⟨⟨1, S_48, rfl, hpost, by rw [ht_]; exact hP, va_K.moved hW_.alike hK, hD⟩, hS.F ht_⟩) hS.2.2 (fk_get fk_cX9_readOne_1 10 rfl)
  obtain ⟨h33, hp8⟩ := tk_y hK8 c_7
  have hz33 := hTx.lt h33 (by decide)
  refine lv_aload_n hx hb (fk_get fk_cX9_readOne_0 7 rfl) rfl (lv_at hl 0 rfl) ?_
  refine lv_iload_n hx hb (fk_get fk_cX9_readOne_0 8 rfl) rfl (lv_at hl 1 rfl) ?_
  refine lv_iconst (v := 1) hx hb (fk_get fk_cX9_readOne_0 9 rfl) (by decide) ?_
  refine lv_iadd hx hb (fk_get fk_cX9_readOne_0 10 rfl) ?_
  rw [show ((1 + 1) : Int32) = 2 from by decide]
  have hFc := va_self hD hS hA
  refine va_calli (va_runV (As := [.int (2)]) (rest := []) ⟨hx, hb, hml, hown, hT⟩ (c_x9_one2E l G ad S_4 H.size (z) (pz + 1) (c) (τ) (by first | assumption | omega) (by first | assumption | omega) (by first | assumption | omega) (by first | assumption | omega) (by first | assumption | omega) (hX_5)) (tV 1 hT m3_64 m3_66 mp_8 m1_12 m3_67 rfl rfl (by decide +kernel) ⟨Nat.le_of_ble_eq_true rfl, Nat.le_of_ble_eq_true rfl⟩) ⟨PcE_blind, va_recv hK hP (ci := 11) (q0 := 57) rfl (ix_at (lt71 (by omega)) (cX_text G ad S_4)), PcE_of hP hK hD hE hS (fun q h => hFc q h) _⟩ rfl rfl hl.1 rfl (lv_room (Nat.le_of_ble_eq_true rfl)) (fk_get fk_cX9_readOne_0 11 rfl) ⟨Nat.zero_le _, Nat.zero_le _⟩) hS (fun q _ h => hFc q h) hFc (fun r_52 S_54 t_ H locs ht_ hvm_ hw_53 hB_ hz_ hk_ hS => ?_)
  obtain ⟨hP, -, hD1_⟩ := hB_
  rw [ht_] at hP
  have hD : va_D A (wX G ad S_54) := hD1_.weaken (fun k q _ h => hFc q.1 h)
  try dsimp only at hw_53
  obtain ⟨hX_55, hF_56_, hw_53⟩ := hw_53
  have hF_56 : Fr (fun j k => (j = 57 ∧ (k = 2 ∨ k = 7 ∨ k = 8)) ∨ ((j = 59 ∨ j = 60) ∧ k = 99)) S S_54 := Fr.trans hF_6 (Fr.mono hF_56_ (fun j k h => by omega))
  have hK18 := hw_53
  have hf18 := hF_56_
  have hT18 := hT8.fr hF_56_ (fun q => by omega) (fun q => by omega)
  refine lv_if_eq (tgt := 38) hx hb (fk_get fk_cX9_readOne_0 12 rfl) (by decide) (fun c_57 => ?_) (fun c_57 => ?_)
  · obtain ⟨e18, hp18⟩ := rd_n hK18 c_57
    refine lv_iconst (v := 0) hx hb (fk_get fk_cX9_readOne_0 20 rfl) (by decide) ?_
    subst hQ
    have hpost : XI S_54 ∧ Fr (fun j k => (j = 57 ∧ (k = 2 ∨ k = 7 ∨ k = 8)) ∨ ((j = 59 ∨ j = 60) ∧ k = 99)) S S_54 ∧ RdP (oneP cdA τ 3 pz) c (0 : Int32) S S_54 := by
      exact ⟨hX_55, hF_56, by first | exact rd_1 ((one_33 (d := 2) h33).trans (thn_s e18)) hp28 ((hC18.base hf8 (fun q => by omega) (fun q => by omega)).put hP28) | exact rd_0 ((one_33 (d := 2) h33).trans (thn_n e18)) hp18 | exact rd_1 ((one_40 (d := 2) n33 h40).trans ((thn_s e58).trans (if_pos h41))) hp67 (((hC58.base hf48 (fun q => by omega) (fun q => by omega)).base hf8 (fun q => by omega) (fun q => by omega)).keep hf67 (fun q => by omega) (fun q => by omega) (fun q => by omega)) | exact rd_0 ((one_40 (d := 2) n33 h40).trans ((thn_s e58).trans (if_neg n41))) hp67 | exact rd_0 ((one_40 (d := 2) n33 h40).trans (thn_n e58)) hp58 | exact rd_0 ((one_t (d := 2) n33 n40).trans (tst_0 hn82)) hp82 | exact rd_0 ((one_t (d := 2) n33 n40).trans (tst_1 hn82 hn97)) hp97 | exact rd_0 ((one_t (d := 2) n33 n40).trans ((tst_2 hn82 hn97).trans (thn_n e106))) hp106 | exact rd_1 ((one_t (d := 2) n33 n40).trans ((tst_2 hn82 hn97).trans (thn_s e106))) hp122 (((((((CdP.nil hc).keep hf8 (fun q => by omega) (fun q => by omega) (fun q => by omega)).keep hf48 (fun q => by omega) (fun q => by omega) (fun q => by omega)).keep hf82 (fun q => by omega) (fun q => by omega) (fun q => by omega)).keep hf97 (fun q => by omega) (fun q => by omega) (fun q => by omega)).keep hf106 (fun q => by omega) (fun q => by omega) (fun q => by omega)).put hP122)⟩
    exact W.zret (v := 0) hx hb hr rfl (fun t_ ht_ hW_ => ⟨⟨0, S_54, rfl, hpost, by rw [ht_]; exact hP, va_K.moved hW_.alike hK, hD⟩, hS.F ht_⟩) hS.2.2 (fk_get fk_cX9_readOne_0 21 rfl)
  obtain ⟨L18, e18, hp18, hC18⟩ := rd_y hK18 c_57
  obtain ⟨g1, g2, g3⟩ := hTx.one 2 (pz + 1) (by omega)
  have g4 := g3 L18 e18
  have hc18 := hC18.1
  refine lv_aload_n hx hb (fk_get fk_cX9_readOne_0 13 rfl) rfl (lv_at hl 0 rfl) ?_
  refine lv_bipush (v := 18) hx hb (fk_get fk_cX9_readOne_0 14 rfl) (by decide) ?_
  refine lv_iconst (v := 0) hx hb (fk_get fk_cX9_readOne_0 15 rfl) (by decide) ?_
  have hFc := va_self hD hS hA
  refine va_calli (va_runV (As := [.int (18), .int (0)]) (rest := []) ⟨hx, hb, hml, hown, hT⟩ (c_x9_putE l G ad S_54 H.size (c + L18.length) (18) (0) (by first | assumption | omega) (by first | assumption | omega) (hX_55)) (tV 2 hT m3_68 m3_70 mp_9 m1_12 m3_71 rfl rfl (by decide +kernel) ⟨Nat.le_of_ble_eq_true rfl, Nat.le_of_ble_eq_true rfl⟩) ⟨PcW_blind, va_recv hK hP (ci := 11) (q0 := 57) rfl (ix_at (lt71 (by omega)) (cX_text G ad S_54)), PcW_of hP hK hD _⟩ rfl rfl hl.1 rfl (lv_room (Nat.le_of_ble_eq_true rfl)) (fk_get fk_cX9_readOne_0 16 rfl) ⟨Nat.zero_le _, Nat.zero_le _⟩) hS (fun q _ h => hFc q h) hFc (fun r_58 S_60 t_ H locs ht_ hvm_ hw_59 hB_ hz_ hk_ hS => ?_)
  obtain ⟨hP, -, hD1_⟩ := hB_
  rw [ht_] at hP
  have hD : va_D A (wX G ad S_60) := hD1_.weaken (fun k q _ h => hFc q.1 h)
  try dsimp only at hw_59
  obtain ⟨hX_61, hF_62_, hw_59⟩ := hw_59
  have hF_62 : Fr (fun j k => (j = 57 ∧ (k = 2 ∨ k = 7 ∨ k = 8)) ∨ ((j = 59 ∨ j = 60) ∧ k = 99)) S S_60 := Fr.trans hF_56 (Fr.mono hF_62_ (fun j k h => by omega))
  obtain ⟨e_, hP28⟩ := hw_59
  subst e_
  have hp28 := (Fr.F hF_62_ (j := 57) (k := 2) (lt71 (by omega)) (fun q => by omega)).trans hp18
  refine lv_if_eq (tgt := 38) hx hb (fk_get fk_cX9_readOne_0 17 rfl) (by decide) (fun c_63 => absurd c_63 ((by decide))) (fun _ => ?_)
  refine lv_iconst (v := 1) hx hb (fk_get fk_cX9_readOne_0 18 rfl) (by decide) ?_
  refine lv_goto (tgt := 39) hx hb (fk_get fk_cX9_readOne_0 19 rfl) (by decide) ?_
  subst hQ
  have hpost : XI S_60 ∧ Fr (fun j k => (j = 57 ∧ (k = 2 ∨ k = 7 ∨ k = 8)) ∨ ((j = 59 ∨ j = 60) ∧ k = 99)) S S_60 ∧ RdP (oneP cdA τ 3 pz) c (1 : Int32) S S_60 := by
    exact ⟨hX_61, hF_62, by first | exact rd_1 ((one_33 (d := 2) h33).trans (thn_s e18)) hp28 ((hC18.base hf8 (fun q => by omega) (fun q => by omega)).put hP28) | exact rd_0 ((one_33 (d := 2) h33).trans (thn_n e18)) hp18 | exact rd_1 ((one_40 (d := 2) n33 h40).trans ((thn_s e58).trans (if_pos h41))) hp67 (((hC58.base hf48 (fun q => by omega) (fun q => by omega)).base hf8 (fun q => by omega) (fun q => by omega)).keep hf67 (fun q => by omega) (fun q => by omega) (fun q => by omega)) | exact rd_0 ((one_40 (d := 2) n33 h40).trans ((thn_s e58).trans (if_neg n41))) hp67 | exact rd_0 ((one_40 (d := 2) n33 h40).trans (thn_n e58)) hp58 | exact rd_0 ((one_t (d := 2) n33 n40).trans (tst_0 hn82)) hp82 | exact rd_0 ((one_t (d := 2) n33 n40).trans (tst_1 hn82 hn97)) hp97 | exact rd_0 ((one_t (d := 2) n33 n40).trans ((tst_2 hn82 hn97).trans (thn_n e106))) hp106 | exact rd_1 ((one_t (d := 2) n33 n40).trans ((tst_2 hn82 hn97).trans (thn_s e106))) hp122 (((((((CdP.nil hc).keep hf8 (fun q => by omega) (fun q => by omega) (fun q => by omega)).keep hf48 (fun q => by omega) (fun q => by omega) (fun q => by omega)).keep hf82 (fun q => by omega) (fun q => by omega) (fun q => by omega)).keep hf97 (fun q => by omega) (fun q => by omega) (fun q => by omega)).keep hf106 (fun q => by omega) (fun q => by omega) (fun q => by omega)).put hP122)⟩
  exact W.zret (v := 1) hx hb hr rfl (fun t_ ht_ hW_ => ⟨⟨1, S_60, rfl, hpost, by rw [ht_]; exact hP, va_K.moved hW_.alike hK, hD⟩, hS.F ht_⟩) hS.2.2 (fk_get fk_cX9_readOne_0 21 rfl)
set_option maxHeartbeats 800000 in
set_option maxRecDepth 100000 in
theorem c_x9_all1E (l : Launch) (G : GG) (ad : Nat → Nat) (S : FS) (sz : Nat) (z pz c : Nat) (τ : Nat → Int32) (hTx : TXz S z τ) (hp : fF S 57 2 = nI pz) (hpz : pz ≤ z) (hc : fF S 57 7 = nI c) (hcp : c ≤ pz) (hX : XI S) : Met l yX9_readAll (Cond.code yX9_readAll cX9_readAll 3 (some .boolean) :: TBL) ({ frames := 17, cells := 0, slots := 0, locals := 462 } : Room) (PcE G (wX G ad S) sz [.ref (ad 57), .int (1)]) (va_Qi (fun (r : Int32) (S' : FS) => XI S' ∧ Fr (fun j k => (j = 57 ∧ (k = 2 ∨ k = 7 ∨ k = 8)) ∨ ((j = 59 ∨ j = 60) ∧ k = 99)) S S' ∧ RdP (allP cdA (oneP cdA τ 3) τ pz) c r S S') (fun S' t => BW G (va_A (wX G ad S) sz) (wX G ad S') t) (va_A (wX G ad S) sz)) 0 0 (va_A (wX G ad S) sz) := by
  refine Met.ofW (cc := cX9_readAll) (maxL := 3) (ret := (some .boolean)) (by decide) rfl ?_
  intro p e s m args below meth c₀ s₁ B hml hv
  obtain ⟨rfl, hsz, hP, hK, hD0, hE⟩ := hv
  have hx := B.exec
  have hb := B.bytes
  have hr := B.returns
  have hT : ∀ w ∈ TBL, w.before ([.ref (ad 57), .int (1)] : List Value).toArray s = true := fun w h => atoms_spec (ws := Cond.code yX9_readAll cX9_readAll 3 (some .boolean) :: TBL) B.pre w (List.mem_cons_of_mem _ h)
  have hown : s.vm.findClass "LittleMore$Text" = some m.cls := findClass_of_methodNamed B.named
  have hlocks := B.notSynchronized
  subst hsz
  have hD := hD0.self (sz := s.heap.size)
  generalize hAe : va_A (wX G ad S) s.heap.size = A at hD hE ⊢
  have hA : ∀ q : Nat, s.heap.size ≤ q → A q := fun q h => by rw [← hAe]; exact Or.inr h
  have hS : va_S A s.heap s.heap [] := va_S.rf
  have hP : va_P G.1 vwCl (wX G ad S) s.heap := hP
  have hl := lv_entry ([.ref (ad 57), .int (1)]) (n := 3) (Nat.le_of_ble_eq_true rfl)
  rw [lg_entry_eq]
  generalize (lg_sl ([.ref (ad 57), .int (1)]) ++ List.replicate (3 - (lg_sl ([.ref (ad 57), .int (1)])).length) Slot.unset).toArray = ls at hl ⊢
  have hl : lv_has ls 3 [(0, .ref (ad 57)), (1, .int (1))] := hl
  refine W_abs (fun Q hQ => ?_)
  generalize ([.ref (ad 57), .int (1)] : List Value).toArray = args at hT hQ ⊢
  have hz1 := hTx.2.1
  refine lv_aload_n hx hb (fk_get fk_cX9_readAll_0 0 rfl) rfl (lv_at hl 0 rfl) ?_
  refine lv_iload_n hx hb (fk_get fk_cX9_readAll_0 1 rfl) rfl (lv_at hl 1 rfl) ?_
  have hFc := va_self hD hS hA
  refine va_calli (va_runV (As := [.int (1)]) (rest := []) ⟨hx, hb, hml, hown, hT⟩ (c_x9_one1E l G ad S s.heap.size (z) (pz) (c) (τ) (by first | assumption | omega) (by first | assumption | omega) (by first | assumption | omega) (by first | assumption | omega) (by first | assumption | omega) (hX)) (tV 1 hT m3_64 m3_66 mp_8 m1_12 m3_67 rfl rfl (by decide +kernel) ⟨Nat.le_of_ble_eq_true rfl, Nat.le_of_ble_eq_true rfl⟩) ⟨PcE_blind, va_recv hK hP (ci := 11) (q0 := 57) rfl (ix_at (lt71 (by omega)) (cX_text G ad S)), PcE_of hP hK hD hE hS (fun q h => hFc q h) _⟩ rfl rfl hl.1 rfl (lv_room (Nat.le_of_ble_eq_true rfl)) (fk_get fk_cX9_readAll_0 2 rfl) ⟨Nat.zero_le _, Nat.zero_le _⟩) hS (fun q _ h => hFc q h) hFc (fun r_1 S_3 t_ H locs ht_ hvm_ hw_2 hB_ hz_ hk_ hS => ?_)
  obtain ⟨hP, -, hD1_⟩ := hB_
  rw [ht_] at hP
  have hD : va_D A (wX G ad S_3) := hD1_.weaken (fun k q _ h => hFc q.1 h)
  try dsimp only at hw_2
  obtain ⟨hX_4, hF_5_, hw_2⟩ := hw_2
  have hF_5 : Fr (fun j k => (j = 57 ∧ (k = 2 ∨ k = 7 ∨ k = 8)) ∨ ((j = 59 ∨ j = 60) ∧ k = 99)) S S_3 := Fr.trans (Fr.rf : Fr (fun j k => (j = 57 ∧ (k = 2 ∨ k = 7 ∨ k = 8)) ∨ ((j = 59 ∨ j = 60) ∧ k = 99)) S S) (Fr.mono hF_5_ (fun j k h => by omega))
  have hK2 := hw_2
  have hf2 := hF_5_
  have hT2 := hTx.fr hF_5_ (fun q => by omega) (fun q => by omega)
  refine lv_if_ne (tgt := 10) hx hb (fk_get fk_cX9_readAll_0 3 rfl) (by decide) (fun c_6 => ?_) (fun c_6 => ?_)
  · obtain ⟨L2, e2, hp2, hC2⟩ := rd_y hK2 c_6
    obtain ⟨g1, g2, g3⟩ := hTx.one 3 pz hpz
    have g4 := g3 L2 e2
    refine lv_iconst (v := 0) hx hb (fk_get fk_cX9_readAll_0 6 rfl) (by decide) ?_
    refine lv_istore_n (lv' := [(2, .int (0)), (0, .ref (ad 57)), (1, .int (1))]) hx hb (fk_get fk_cX9_readAll_0 7 rfl) rfl hl (by decide) rfl (fun ls hl => ?_)
    have lp_7 : ∀ (fu : Nat) (k q : Nat) (L : Cds) (SL12 : FS) (H_9 : Heap) (locs_10 : List Loc) (ls : Array Slot),  (XI SL12) → (Fr (fun j k => (j = 57 ∧ (k = 2 ∨ k = 7 ∨ k = 8)) ∨ ((j = 59 ∨ j = 60) ∧ k = 99)) S SL12) → (k ≤ 100) → (100 < k + fu) → (TXz SL12 z τ) → (fF SL12 57 2 = nI q) → (q ≤ z) → (pz + L.length + 1 ≤ q) → (CdP S SL12 c L) → (seqP (oneP cdA τ 3) cdA.2.2.1 38 τ (100 - k) L q = allP cdA (oneP cdA τ 3) τ pz) → va_P G.1 vwCl (wX G ad SL12) H_9 → va_D A (wX G ad SL12) → va_S A s.heap H_9 locs_10 → lv_has ls 3 [(2, .int ((nI k))), (0, .ref (ad 57)), (1, .int (1))] → W p l e ({ frames := 17, cells := 0, slots := 0, locals := 462 } : Room) s m args below meth c₀ H_9 locs_10 0 0 Q (F0 m 12 ls []) := by
      intro fu
      induction fu with
      | zero =>
        intro k q L SL12 H_9 locs_10 ls hXl12 hFl12 hk hf hTl hql hqz hLq hCl hQ2 hP hD hS hl
        exact absurd hf (by omega)
      | succ fu ih =>
        intro k q L SL12 H_9 locs_10 ls hXl12 hFl12 hk hf hTl hql hqz hLq hCl hQ2 hP hD hS hl
        refine lv_iload_n hx hb (fk_get fk_cX9_readAll_0 8 rfl) rfl (lv_at hl 0 rfl) ?_
        refine lv_bipush (v := 100) hx hb (fk_get fk_cX9_readAll_0 9 rfl) (by decide) ?_
        refine lv_icmp_ge (tgt := 53) hx hb (fk_get fk_cX9_readAll_0 10 rfl) (by decide) (fun c_11 => ?_) (fun c_11 => ?_)
        · have q_c_11 : 100 ≤ k := ci_le (a := 100) (b := k) (by omega) (by omega) c_11
          refine lv_iconst (v := 1) hx hb (fk_get fk_cX9_readAll_0 28 rfl) (by decide) ?_
          subst hQ
          have hpost : XI SL12 ∧ Fr (fun j k => (j = 57 ∧ (k = 2 ∨ k = 7 ∨ k = 8)) ∨ ((j = 59 ∨ j = 60) ∧ k = 99)) S SL12 ∧ RdP (allP cdA (oneP cdA τ 3) τ pz) c (1 : Int32) S SL12 := by
            exact ⟨hXl12, hFl12, by first | exact rd_0 (thn_n e2) hp2 | exact rd_1 (hQ2.symm.trans (seq_no n21 _)) hp21 (hCl.keep hf21 (fun q => by omega) (fun q => by omega) (fun q => by omega)) | exact rd_1 (hQ2.symm.trans (by rw [show 100 - k = 0 by omega]; rfl)) hql hCl | exact rd_0 (hQ2.symm.trans ((seq_s (by omega) h21).trans (thn_n e29))) hp29⟩
          exact W.zret (v := 1) hx hb hr rfl (fun t_ ht_ hW_ => ⟨⟨1, SL12, rfl, hpost, by rw [ht_]; exact hP, va_K.moved hW_.alike hK, hD⟩, hS.F ht_⟩) hS.2.2 (fk_get fk_cX9_readAll_0 29 rfl)
        have q_c_11 : k < 100 := ci_nle (a := 100) (b := k) (by omega) (by omega) c_11
        refine lv_aload_n hx hb (fk_get fk_cX9_readAll_0 11 rfl) rfl (lv_at hl 1 rfl) ?_
        refine lv_bipush (v := 38) hx hb (fk_get fk_cX9_readAll_0 12 rfl) (by decide) ?_
        have hFc := va_self hD hS hA
        refine va_calli (va_runV (As := [.int (38)]) (rest := []) ⟨hx, hb, hml, hown, hT⟩ (c_x9_takesE l G ad SL12 H_9.size (z) (q) (38) (τ) (by first | assumption | omega) (by first | assumption | omega) (by first | assumption | omega) (hXl12)) (tV 1 hT m2_213 m2_215 mp_0 m1_12 m2_216 rfl rfl (by decide +kernel) ⟨Nat.le_of_ble_eq_true rfl, Nat.le_of_ble_eq_true rfl⟩) ⟨PcW_blind, va_recv hK hP (ci := 11) (q0 := 57) rfl (ix_at (lt71 (by omega)) (cX_text G ad SL12)), PcW_of hP hK hD _⟩ rfl rfl hl.1 rfl (lv_room (Nat.le_of_ble_eq_true rfl)) (fk_get fk_cX9_readAll_0 13 rfl) ⟨Nat.zero_le _, Nat.zero_le _⟩) hS (fun q _ h => hFc q h) hFc (fun r_12 S_14 t_ H locs ht_ hvm_ hw_13 hB_ hz_ hk_ hS => ?_)
        obtain ⟨hP, -, hD1_⟩ := hB_
        rw [ht_] at hP
        have hD : va_D A (wX G ad S_14) := hD1_.weaken (fun k q _ h => hFc q.1 h)
        try dsimp only at hw_13
        obtain ⟨hX_15, hF_16_, hw_13⟩ := hw_13
        have hF_16 : Fr (fun j k => (j = 57 ∧ (k = 2 ∨ k = 7 ∨ k = 8)) ∨ ((j = 59 ∨ j = 60) ∧ k = 99)) S S_14 := Fr.trans hFl12 (Fr.mono hF_16_ (fun j k h => by omega))
        have hK21 := hw_13
        have hf21 := hF_16_
        have hT21 := hTl.fr hF_16_ (fun q => by omega) (fun q => by omega)
        have hc21 := (Fr.F hF_16_ (j := 57) (k := 7) (lt71 (by omega)) (fun q => by omega)).trans hCl.1
        refine lv_if_eq (tgt := 53) hx hb (fk_get fk_cX9_readAll_0 14 rfl) (by decide) (fun c_17 => ?_) (fun c_17 => ?_)
        · obtain ⟨n21, hp21⟩ := tk_n hK21 c_17
          refine lv_iconst (v := 1) hx hb (fk_get fk_cX9_readAll_0 28 rfl) (by decide) ?_
          subst hQ
          have hpost : XI S_14 ∧ Fr (fun j k => (j = 57 ∧ (k = 2 ∨ k = 7 ∨ k = 8)) ∨ ((j = 59 ∨ j = 60) ∧ k = 99)) S S_14 ∧ RdP (allP cdA (oneP cdA τ 3) τ pz) c (1 : Int32) S S_14 := by
            exact ⟨hX_15, hF_16, by first | exact rd_0 (thn_n e2) hp2 | exact rd_1 (hQ2.symm.trans (seq_no n21 _)) hp21 (hCl.keep hf21 (fun q => by omega) (fun q => by omega) (fun q => by omega)) | exact rd_1 (hQ2.symm.trans (by rw [show 100 - k = 0 by omega]; rfl)) hql hCl | exact rd_0 (hQ2.symm.trans ((seq_s (by omega) h21).trans (thn_n e29))) hp29⟩
          exact W.zret (v := 1) hx hb hr rfl (fun t_ ht_ hW_ => ⟨⟨1, S_14, rfl, hpost, by rw [ht_]; exact hP, va_K.moved hW_.alike hK, hD⟩, hS.F ht_⟩) hS.2.2 (fk_get fk_cX9_readAll_0 29 rfl)
        obtain ⟨h21, hp21⟩ := tk_y hK21 c_17
        have hz21 := hTx.lt h21 (by decide)
        refine lv_aload_n hx hb (fk_get fk_cX9_readAll_0 15 rfl) rfl (lv_at hl 1 rfl) ?_
        refine lv_iload_n hx hb (fk_get fk_cX9_readAll_0 16 rfl) rfl (lv_at hl 2 rfl) ?_
        have hFc := va_self hD hS hA
        refine va_calli (va_runV (As := [.int (1)]) (rest := []) ⟨hx, hb, hml, hown, hT⟩ (c_x9_one1E l G ad S_14 H.size (z) (q + 1) (c + L.length) (τ) (by first | assumption | omega) (by first | assumption | omega) (by first | assumption | omega) (by first | assumption | omega) (by first | assumption | omega) (hX_15)) (tV 1 hT m3_64 m3_66 mp_8 m1_12 m3_67 rfl rfl (by decide +kernel) ⟨Nat.le_of_ble_eq_true rfl, Nat.le_of_ble_eq_true rfl⟩) ⟨PcE_blind, va_recv hK hP (ci := 11) (q0 := 57) rfl (ix_at (lt71 (by omega)) (cX_text G ad S_14)), PcE_of hP hK hD hE hS (fun q h => hFc q h) _⟩ rfl rfl hl.1 rfl (lv_room (Nat.le_of_ble_eq_true rfl)) (fk_get fk_cX9_readAll_0 17 rfl) ⟨Nat.zero_le _, Nat.zero_le _⟩) hS (fun q _ h => hFc q h) hFc (fun r_18 S_20 t_ H locs ht_ hvm_ hw_19 hB_ hz_ hk_ hS => ?_)
        obtain ⟨hP, -, hD1_⟩ := hB_
        rw [ht_] at hP
        have hD : va_D A (wX G ad S_20) := hD1_.weaken (fun k q _ h => hFc q.1 h)
        try dsimp only at hw_19
        obtain ⟨hX_21, hF_22_, hw_19⟩ := hw_19
        have hF_22 : Fr (fun j k => (j = 57 ∧ (k = 2 ∨ k = 7 ∨ k = 8)) ∨ ((j = 59 ∨ j = 60) ∧ k = 99)) S S_20 := Fr.trans hF_16 (Fr.mono hF_22_ (fun j k h => by omega))
        have hK29 := hw_19
        have hT29 := hT21.fr hF_22_ (fun q => by omega) (fun q => by omega)
        refine lv_if_eq (tgt := 45) hx hb (fk_get fk_cX9_readAll_0 18 rfl) (by decide) (fun c_23 => ?_) (fun c_23 => ?_)
        · obtain ⟨e29, hp29⟩ := rd_n hK29 c_23
          refine lv_iconst (v := 0) hx hb (fk_get fk_cX9_readAll_0 24 rfl) (by decide) ?_
          subst hQ
          have hpost : XI S_20 ∧ Fr (fun j k => (j = 57 ∧ (k = 2 ∨ k = 7 ∨ k = 8)) ∨ ((j = 59 ∨ j = 60) ∧ k = 99)) S S_20 ∧ RdP (allP cdA (oneP cdA τ 3) τ pz) c (0 : Int32) S S_20 := by
            exact ⟨hX_21, hF_22, by first | exact rd_0 (thn_n e2) hp2 | exact rd_1 (hQ2.symm.trans (seq_no n21 _)) hp21 (hCl.keep hf21 (fun q => by omega) (fun q => by omega) (fun q => by omega)) | exact rd_1 (hQ2.symm.trans (by rw [show 100 - k = 0 by omega]; rfl)) hql hCl | exact rd_0 (hQ2.symm.trans ((seq_s (by omega) h21).trans (thn_n e29))) hp29⟩
          exact W.zret (v := 0) hx hb hr rfl (fun t_ ht_ hW_ => ⟨⟨0, S_20, rfl, hpost, by rw [ht_]; exact hP, va_K.moved hW_.alike hK, hD⟩, hS.F ht_⟩) hS.2.2 (fk_get fk_cX9_readAll_0 25 rfl)
        obtain ⟨M, e29, hp29, hC29⟩ := rd_y hK29 c_23
        obtain ⟨g5, g6, g7⟩ := hTx.one 3 (q + 1) (by omega)
        have g8 := g7 M e29
        have hc29 := hC29.1
        refine lv_aload_n hx hb (fk_get fk_cX9_readAll_0 19 rfl) rfl (lv_at hl 1 rfl) ?_
        refine lv_bipush (v := 19) hx hb (fk_get fk_cX9_readAll_0 20 rfl) (by decide) ?_
        refine lv_iconst (v := 0) hx hb (fk_get fk_cX9_readAll_0 21 rfl) (by decide) ?_
        have hFc := va_self hD hS hA
        refine va_calli (va_runV (As := [.int (19), .int (0)]) (rest := []) ⟨hx, hb, hml, hown, hT⟩ (c_x9_putE l G ad S_20 H.size (c + L.length + M.length) (19) (0) (by first | assumption | omega) (by first | assumption | omega) (hX_21)) (tV 2 hT m3_68 m3_70 mp_9 m1_12 m3_71 rfl rfl (by decide +kernel) ⟨Nat.le_of_ble_eq_true rfl, Nat.le_of_ble_eq_true rfl⟩) ⟨PcW_blind, va_recv hK hP (ci := 11) (q0 := 57) rfl (ix_at (lt71 (by omega)) (cX_text G ad S_20)), PcW_of hP hK hD _⟩ rfl rfl hl.1 rfl (lv_room (Nat.le_of_ble_eq_true rfl)) (fk_get fk_cX9_readAll_0 22 rfl) ⟨Nat.zero_le _, Nat.zero_le _⟩) hS (fun q _ h => hFc q h) hFc (fun r_24 S_26 t_ H locs ht_ hvm_ hw_25 hB_ hz_ hk_ hS => ?_)
        obtain ⟨hP, -, hD1_⟩ := hB_
        rw [ht_] at hP
        have hD : va_D A (wX G ad S_26) := hD1_.weaken (fun k q _ h => hFc q.1 h)
        try dsimp only at hw_25
        obtain ⟨hX_27, hF_28_, hw_25⟩ := hw_25
        have hF_28 : Fr (fun j k => (j = 57 ∧ (k = 2 ∨ k = 7 ∨ k = 8)) ∨ ((j = 59 ∨ j = 60) ∧ k = 99)) S S_26 := Fr.trans hF_22 (Fr.mono hF_28_ (fun j k h => by omega))
        obtain ⟨e_, hP39⟩ := hw_25
        subst e_
        have hp39 := (Fr.F hF_28_ (j := 57) (k := 2) (lt71 (by omega)) (fun q => by omega)).trans hp29
        have hT39 := hT29.fr hF_28_ (fun q => by omega) (fun q => by omega)
        refine lv_if_ne (tgt := 47) hx hb (fk_get fk_cX9_readAll_0 23 rfl) (by decide) (fun _ => ?_) (fun c_29 => absurd c_29 ((by decide)))
        refine lv_iinc (v := (nI (k + 1))) (lv' := [(2, .int ((nI (k + 1)))), (0, .ref (ad 57)), (1, .int (1))]) hx hb (fk_get fk_cX9_readAll_0 26 rfl) hl (k := 0) rfl ((nI_1 k)) (by decide) rfl (fun ls hl => ?_)
        refine lv_goto (tgt := 12) hx hb (fk_get fk_cX9_readAll_0 27 rfl) (by decide) ?_
        exact ih (k + 1) (((oneP cdA τ 3) (q + 1)).2) ((cdA.2.2.1 L M)) (S_26) _ _ ls (hX_27) (hF_28) (by omega) (by omega) (hT39) (hp39) (g6) ((by rw [show (cdA.2.2.1 L M).length = L.length + M.length + 1 from op_len L M _]; omega)) (((hCl.keep hf21 (fun q => by omega) (fun q => by omega) (fun q => by omega)).app hC29).put (by rw [List.length_append, ← Nat.add_assoc]; exact hP39)) (((thn_s e29).symm.trans ((seq_s (by omega) h21).symm.trans hQ2))) hP hD hS (lv_sub hl [0, 1, 2] rfl)
    exact lp_7 (101) (0) (((oneP cdA τ 3) pz).2) (L2) (S_3) _ _ ls (hX_4) (hF_5) (by omega) (by omega) (hT2) (hp2) (g2) (g4) (hC2) ((thn_s e2).symm) hP hD hS (lv_sub hl [0, 1, 2] rfl)
  obtain ⟨e2, hp2⟩ := rd_n hK2 (by assumption)
  refine lv_iconst (v := 0) hx hb (fk_get fk_cX9_readAll_0 4 rfl) (by decide) ?_
  subst hQ
  have hpost : XI S_3 ∧ Fr (fun j k => (j = 57 ∧ (k = 2 ∨ k = 7 ∨ k = 8)) ∨ ((j = 59 ∨ j = 60) ∧ k = 99)) S S_3 ∧ RdP (allP cdA (oneP cdA τ 3) τ pz) c (0 : Int32) S S_3 := by
    exact ⟨hX_4, hF_5, by first | exact rd_0 (thn_n e2) hp2 | exact rd_1 (hQ2.symm.trans (seq_no n21 _)) hp21 (hCl.keep hf21 (fun q => by omega) (fun q => by omega) (fun q => by omega)) | exact rd_1 (hQ2.symm.trans (by rw [show 100 - k = 0 by omega]; rfl)) hql hCl | exact rd_0 (hQ2.symm.trans ((seq_s (by omega) h21).trans (thn_n e29))) hp29⟩
  exact W.zret (v := 0) hx hb hr rfl (fun t_ ht_ hW_ => ⟨⟨0, S_3, rfl, hpost, by rw [ht_]; exact hP, va_K.moved hW_.alike hK, hD⟩, hS.F ht_⟩) hS.2.2 (fk_get fk_cX9_readAll_0 5 rfl)
set_option maxHeartbeats 800000 in
set_option maxRecDepth 100000 in
theorem c_x9_any1E (l : Launch) (G : GG) (ad : Nat → Nat) (S : FS) (sz : Nat) (z pz c : Nat) (τ : Nat → Int32) (hTx : TXz S z τ) (hp : fF S 57 2 = nI pz) (hpz : pz ≤ z) (hc : fF S 57 7 = nI c) (hcp : c ≤ pz) (hX : XI S) : Met l yX9_readAny (Cond.code yX9_readAny cX9_readAny 3 (some .boolean) :: TBL) ({ frames := 18, cells := 0, slots := 0, locals := 488 } : Room) (PcE G (wX G ad S) sz [.ref (ad 57), .int (1)]) (va_Qi (fun (r : Int32) (S' : FS) => XI S' ∧ Fr (fun j k => (j = 57 ∧ (k = 2 ∨ k = 7 ∨ k = 8)) ∨ ((j = 59 ∨ j = 60) ∧ k = 99)) S S' ∧ RdP (anyP cdA (oneP cdA τ 3) τ pz) c r S S') (fun S' t => BW G (va_A (wX G ad S) sz) (wX G ad S') t) (va_A (wX G ad S) sz)) 0 0 (va_A (wX G ad S) sz) := by
  refine Met.ofW (cc := cX9_readAny) (maxL := 3) (ret := (some .boolean)) (by decide) rfl ?_
  intro p e s m args below meth c₀ s₁ B hml hv
  obtain ⟨rfl, hsz, hP, hK, hD0, hE⟩ := hv
  have hx := B.exec
  have hb := B.bytes
  have hr := B.returns
  have hT : ∀ w ∈ TBL, w.before ([.ref (ad 57), .int (1)] : List Value).toArray s = true := fun w h => atoms_spec (ws := Cond.code yX9_readAny cX9_readAny 3 (some .boolean) :: TBL) B.pre w (List.mem_cons_of_mem _ h)
  have hown : s.vm.findClass "LittleMore$Text" = some m.cls := findClass_of_methodNamed B.named
  have hlocks := B.notSynchronized
  subst hsz
  have hD := hD0.self (sz := s.heap.size)
  generalize hAe : va_A (wX G ad S) s.heap.size = A at hD hE ⊢
  have hA : ∀ q : Nat, s.heap.size ≤ q → A q := fun q h => by rw [← hAe]; exact Or.inr h
  have hS : va_S A s.heap s.heap [] := va_S.rf
  have hP : va_P G.1 vwCl (wX G ad S) s.heap := hP
  have hl := lv_entry ([.ref (ad 57), .int (1)]) (n := 3) (Nat.le_of_ble_eq_true rfl)
  rw [lg_entry_eq]
  generalize (lg_sl ([.ref (ad 57), .int (1)]) ++ List.replicate (3 - (lg_sl ([.ref (ad 57), .int (1)])).length) Slot.unset).toArray = ls at hl ⊢
  have hl : lv_has ls 3 [(0, .ref (ad 57)), (1, .int (1))] := hl
  refine W_abs (fun Q hQ => ?_)
  generalize ([.ref (ad 57), .int (1)] : List Value).toArray = args at hT hQ ⊢
  have hz1 := hTx.2.1
  refine lv_aload_n hx hb (fk_get fk_cX9_readAny_0 0 rfl) rfl (lv_at hl 0 rfl) ?_
  refine lv_iload_n hx hb (fk_get fk_cX9_readAny_0 1 rfl) rfl (lv_at hl 1 rfl) ?_
  have hFc := va_self hD hS hA
  refine va_calli (va_runV (As := [.int (1)]) (rest := []) ⟨hx, hb, hml, hown, hT⟩ (c_x9_all1E l G ad S s.heap.size (z) (pz) (c) (τ) (by first | assumption | omega) (by first | assumption | omega) (by first | assumption | omega) (by first | assumption | omega) (by first | assumption | omega) (hX)) (tV 1 hT m3_60 m3_62 mp_7 m1_12 m3_63 rfl rfl (by decide +kernel) ⟨Nat.le_of_ble_eq_true rfl, Nat.le_of_ble_eq_true rfl⟩) ⟨PcE_blind, va_recv hK hP (ci := 11) (q0 := 57) rfl (ix_at (lt71 (by omega)) (cX_text G ad S)), PcE_of hP hK hD hE hS (fun q h => hFc q h) _⟩ rfl rfl hl.1 rfl (lv_room (Nat.le_of_ble_eq_true rfl)) (fk_get fk_cX9_readAny_0 2 rfl) ⟨Nat.zero_le _, Nat.zero_le _⟩) hS (fun q _ h => hFc q h) hFc (fun r_1 S_3 t_ H locs ht_ hvm_ hw_2 hB_ hz_ hk_ hS => ?_)
  obtain ⟨hP, -, hD1_⟩ := hB_
  rw [ht_] at hP
  have hD : va_D A (wX G ad S_3) := hD1_.weaken (fun k q _ h => hFc q.1 h)
  try dsimp only at hw_2
  obtain ⟨hX_4, hF_5_, hw_2⟩ := hw_2
  have hF_5 : Fr (fun j k => (j = 57 ∧ (k = 2 ∨ k = 7 ∨ k = 8)) ∨ ((j = 59 ∨ j = 60) ∧ k = 99)) S S_3 := Fr.trans (Fr.rf : Fr (fun j k => (j = 57 ∧ (k = 2 ∨ k = 7 ∨ k = 8)) ∨ ((j = 59 ∨ j = 60) ∧ k = 99)) S S) (Fr.mono hF_5_ (fun j k h => by omega))
  have hK2 := hw_2
  have hf2 := hF_5_
  have hT2 := hTx.fr hF_5_ (fun q => by omega) (fun q => by omega)
  refine lv_if_ne (tgt := 10) hx hb (fk_get fk_cX9_readAny_0 3 rfl) (by decide) (fun c_6 => ?_) (fun c_6 => ?_)
  · obtain ⟨L2, e2, hp2, hC2⟩ := rd_y hK2 c_6
    obtain ⟨g1, g2, g3⟩ := hTx.all 3 pz hpz
    have g4 := g3 L2 e2
    refine lv_iconst (v := 0) hx hb (fk_get fk_cX9_readAny_0 6 rfl) (by decide) ?_
    refine lv_istore_n (lv' := [(2, .int (0)), (0, .ref (ad 57)), (1, .int (1))]) hx hb (fk_get fk_cX9_readAny_0 7 rfl) rfl hl (by decide) rfl (fun ls hl => ?_)
    have lp_7 : ∀ (fu : Nat) (k q : Nat) (L : Cds) (SL12 : FS) (H_9 : Heap) (locs_10 : List Loc) (ls : Array Slot),  (XI SL12) → (Fr (fun j k => (j = 57 ∧ (k = 2 ∨ k = 7 ∨ k = 8)) ∨ ((j = 59 ∨ j = 60) ∧ k = 99)) S SL12) → (k ≤ 100) → (100 < k + fu) → (TXz SL12 z τ) → (fF SL12 57 2 = nI q) → (q ≤ z) → (pz + L.length + 1 ≤ q) → (CdP S SL12 c L) → (seqP (allP cdA (oneP cdA τ 3) τ) cdA.2.2.2 124 τ (100 - k) L q = anyP cdA (oneP cdA τ 3) τ pz) → va_P G.1 vwCl (wX G ad SL12) H_9 → va_D A (wX G ad SL12) → va_S A s.heap H_9 locs_10 → lv_has ls 3 [(2, .int ((nI k))), (0, .ref (ad 57)), (1, .int (1))] → W p l e ({ frames := 18, cells := 0, slots := 0, locals := 488 } : Room) s m args below meth c₀ H_9 locs_10 0 0 Q (F0 m 12 ls []) := by
      intro fu
      induction fu with
      | zero =>
        intro k q L SL12 H_9 locs_10 ls hXl12 hFl12 hk hf hTl hql hqz hLq hCl hQ2 hP hD hS hl
        exact absurd hf (by omega)
      | succ fu ih =>
        intro k q L SL12 H_9 locs_10 ls hXl12 hFl12 hk hf hTl hql hqz hLq hCl hQ2 hP hD hS hl
        refine lv_iload_n hx hb (fk_get fk_cX9_readAny_0 8 rfl) rfl (lv_at hl 0 rfl) ?_
        refine lv_bipush (v := 100) hx hb (fk_get fk_cX9_readAny_0 9 rfl) (by decide) ?_
        refine lv_icmp_ge (tgt := 53) hx hb (fk_get fk_cX9_readAny_0 10 rfl) (by decide) (fun c_11 => ?_) (fun c_11 => ?_)
        · have q_c_11 : 100 ≤ k := ci_le (a := 100) (b := k) (by omega) (by omega) c_11
          refine lv_iconst (v := 1) hx hb (fk_get fk_cX9_readAny_0 28 rfl) (by decide) ?_
          subst hQ
          have hpost : XI SL12 ∧ Fr (fun j k => (j = 57 ∧ (k = 2 ∨ k = 7 ∨ k = 8)) ∨ ((j = 59 ∨ j = 60) ∧ k = 99)) S SL12 ∧ RdP (anyP cdA (oneP cdA τ 3) τ pz) c (1 : Int32) S SL12 := by
            exact ⟨hXl12, hFl12, by first | exact rd_0 (thn_n e2) hp2 | exact rd_1 (hQ2.symm.trans (seq_no n21 _)) hp21 (hCl.keep hf21 (fun q => by omega) (fun q => by omega) (fun q => by omega)) | exact rd_1 (hQ2.symm.trans (by rw [show 100 - k = 0 by omega]; rfl)) hql hCl | exact rd_0 (hQ2.symm.trans ((seq_s (by omega) h21).trans (thn_n e29))) hp29⟩
          exact W.zret (v := 1) hx hb hr rfl (fun t_ ht_ hW_ => ⟨⟨1, SL12, rfl, hpost, by rw [ht_]; exact hP, va_K.moved hW_.alike hK, hD⟩, hS.F ht_⟩) hS.2.2 (fk_get fk_cX9_readAny_0 29 rfl)
        have q_c_11 : k < 100 := ci_nle (a := 100) (b := k) (by omega) (by omega) c_11
        refine lv_aload_n hx hb (fk_get fk_cX9_readAny_0 11 rfl) rfl (lv_at hl 1 rfl) ?_
        refine lv_bipush (v := 124) hx hb (fk_get fk_cX9_readAny_0 12 rfl) (by decide) ?_
        have hFc := va_self hD hS hA
        refine va_calli (va_runV (As := [.int (124)]) (rest := []) ⟨hx, hb, hml, hown, hT⟩ (c_x9_takesE l G ad SL12 H_9.size (z) (q) (124) (τ) (by first | assumption | omega) (by first | assumption | omega) (by first | assumption | omega) (hXl12)) (tV 1 hT m2_213 m2_215 mp_0 m1_12 m2_216 rfl rfl (by decide +kernel) ⟨Nat.le_of_ble_eq_true rfl, Nat.le_of_ble_eq_true rfl⟩) ⟨PcW_blind, va_recv hK hP (ci := 11) (q0 := 57) rfl (ix_at (lt71 (by omega)) (cX_text G ad SL12)), PcW_of hP hK hD _⟩ rfl rfl hl.1 rfl (lv_room (Nat.le_of_ble_eq_true rfl)) (fk_get fk_cX9_readAny_0 13 rfl) ⟨Nat.zero_le _, Nat.zero_le _⟩) hS (fun q _ h => hFc q h) hFc (fun r_12 S_14 t_ H locs ht_ hvm_ hw_13 hB_ hz_ hk_ hS => ?_)
        obtain ⟨hP, -, hD1_⟩ := hB_
        rw [ht_] at hP
        have hD : va_D A (wX G ad S_14) := hD1_.weaken (fun k q _ h => hFc q.1 h)
        try dsimp only at hw_13
        obtain ⟨hX_15, hF_16_, hw_13⟩ := hw_13
        have hF_16 : Fr (fun j k => (j = 57 ∧ (k = 2 ∨ k = 7 ∨ k = 8)) ∨ ((j = 59 ∨ j = 60) ∧ k = 99)) S S_14 := Fr.trans hFl12 (Fr.mono hF_16_ (fun j k h => by omega))
        have hK21 := hw_13
        have hf21 := hF_16_
        have hT21 := hTl.fr hF_16_ (fun q => by omega) (fun q => by omega)
        have hc21 := (Fr.F hF_16_ (j := 57) (k := 7) (lt71 (by omega)) (fun q => by omega)).trans hCl.1
        refine lv_if_eq (tgt := 53) hx hb (fk_get fk_cX9_readAny_0 14 rfl) (by decide) (fun c_17 => ?_) (fun c_17 => ?_)
        · obtain ⟨n21, hp21⟩ := tk_n hK21 c_17
          refine lv_iconst (v := 1) hx hb (fk_get fk_cX9_readAny_0 28 rfl) (by decide) ?_
          subst hQ
          have hpost : XI S_14 ∧ Fr (fun j k => (j = 57 ∧ (k = 2 ∨ k = 7 ∨ k = 8)) ∨ ((j = 59 ∨ j = 60) ∧ k = 99)) S S_14 ∧ RdP (anyP cdA (oneP cdA τ 3) τ pz) c (1 : Int32) S S_14 := by
            exact ⟨hX_15, hF_16, by first | exact rd_0 (thn_n e2) hp2 | exact rd_1 (hQ2.symm.trans (seq_no n21 _)) hp21 (hCl.keep hf21 (fun q => by omega) (fun q => by omega) (fun q => by omega)) | exact rd_1 (hQ2.symm.trans (by rw [show 100 - k = 0 by omega]; rfl)) hql hCl | exact rd_0 (hQ2.symm.trans ((seq_s (by omega) h21).trans (thn_n e29))) hp29⟩
          exact W.zret (v := 1) hx hb hr rfl (fun t_ ht_ hW_ => ⟨⟨1, S_14, rfl, hpost, by rw [ht_]; exact hP, va_K.moved hW_.alike hK, hD⟩, hS.F ht_⟩) hS.2.2 (fk_get fk_cX9_readAny_0 29 rfl)
        obtain ⟨h21, hp21⟩ := tk_y hK21 c_17
        have hz21 := hTx.lt h21 (by decide)
        refine lv_aload_n hx hb (fk_get fk_cX9_readAny_0 15 rfl) rfl (lv_at hl 1 rfl) ?_
        refine lv_iload_n hx hb (fk_get fk_cX9_readAny_0 16 rfl) rfl (lv_at hl 2 rfl) ?_
        have hFc := va_self hD hS hA
        refine va_calli (va_runV (As := [.int (1)]) (rest := []) ⟨hx, hb, hml, hown, hT⟩ (c_x9_all1E l G ad S_14 H.size (z) (q + 1) (c + L.length) (τ) (by first | assumption | omega) (by first | assumption | omega) (by first | assumption | omega) (by first | assumption | omega) (by first | assumption | omega) (hX_15)) (tV 1 hT m3_60 m3_62 mp_7 m1_12 m3_63 rfl rfl (by decide +kernel) ⟨Nat.le_of_ble_eq_true rfl, Nat.le_of_ble_eq_true rfl⟩) ⟨PcE_blind, va_recv hK hP (ci := 11) (q0 := 57) rfl (ix_at (lt71 (by omega)) (cX_text G ad S_14)), PcE_of hP hK hD hE hS (fun q h => hFc q h) _⟩ rfl rfl hl.1 rfl (lv_room (Nat.le_of_ble_eq_true rfl)) (fk_get fk_cX9_readAny_0 17 rfl) ⟨Nat.zero_le _, Nat.zero_le _⟩) hS (fun q _ h => hFc q h) hFc (fun r_18 S_20 t_ H locs ht_ hvm_ hw_19 hB_ hz_ hk_ hS => ?_)
        obtain ⟨hP, -, hD1_⟩ := hB_
        rw [ht_] at hP
        have hD : va_D A (wX G ad S_20) := hD1_.weaken (fun k q _ h => hFc q.1 h)
        try dsimp only at hw_19
        obtain ⟨hX_21, hF_22_, hw_19⟩ := hw_19
        have hF_22 : Fr (fun j k => (j = 57 ∧ (k = 2 ∨ k = 7 ∨ k = 8)) ∨ ((j = 59 ∨ j = 60) ∧ k = 99)) S S_20 := Fr.trans hF_16 (Fr.mono hF_22_ (fun j k h => by omega))
        have hK29 := hw_19
        have hT29 := hT21.fr hF_22_ (fun q => by omega) (fun q => by omega)
        refine lv_if_eq (tgt := 45) hx hb (fk_get fk_cX9_readAny_0 18 rfl) (by decide) (fun c_23 => ?_) (fun c_23 => ?_)
        · obtain ⟨e29, hp29⟩ := rd_n hK29 c_23
          refine lv_iconst (v := 0) hx hb (fk_get fk_cX9_readAny_0 24 rfl) (by decide) ?_
          subst hQ
          have hpost : XI S_20 ∧ Fr (fun j k => (j = 57 ∧ (k = 2 ∨ k = 7 ∨ k = 8)) ∨ ((j = 59 ∨ j = 60) ∧ k = 99)) S S_20 ∧ RdP (anyP cdA (oneP cdA τ 3) τ pz) c (0 : Int32) S S_20 := by
            exact ⟨hX_21, hF_22, by first | exact rd_0 (thn_n e2) hp2 | exact rd_1 (hQ2.symm.trans (seq_no n21 _)) hp21 (hCl.keep hf21 (fun q => by omega) (fun q => by omega) (fun q => by omega)) | exact rd_1 (hQ2.symm.trans (by rw [show 100 - k = 0 by omega]; rfl)) hql hCl | exact rd_0 (hQ2.symm.trans ((seq_s (by omega) h21).trans (thn_n e29))) hp29⟩
          exact W.zret (v := 0) hx hb hr rfl (fun t_ ht_ hW_ => ⟨⟨0, S_20, rfl, hpost, by rw [ht_]; exact hP, va_K.moved hW_.alike hK, hD⟩, hS.F ht_⟩) hS.2.2 (fk_get fk_cX9_readAny_0 25 rfl)
        obtain ⟨M, e29, hp29, hC29⟩ := rd_y hK29 c_23
        obtain ⟨g5, g6, g7⟩ := hTx.all 3 (q + 1) (by omega)
        have g8 := g7 M e29
        have hc29 := hC29.1
        refine lv_aload_n hx hb (fk_get fk_cX9_readAny_0 19 rfl) rfl (lv_at hl 1 rfl) ?_
        refine lv_bipush (v := 20) hx hb (fk_get fk_cX9_readAny_0 20 rfl) (by decide) ?_
        refine lv_iconst (v := 0) hx hb (fk_get fk_cX9_readAny_0 21 rfl) (by decide) ?_
        have hFc := va_self hD hS hA
        refine va_calli (va_runV (As := [.int (20), .int (0)]) (rest := []) ⟨hx, hb, hml, hown, hT⟩ (c_x9_putE l G ad S_20 H.size (c + L.length + M.length) (20) (0) (by first | assumption | omega) (by first | assumption | omega) (hX_21)) (tV 2 hT m3_68 m3_70 mp_9 m1_12 m3_71 rfl rfl (by decide +kernel) ⟨Nat.le_of_ble_eq_true rfl, Nat.le_of_ble_eq_true rfl⟩) ⟨PcW_blind, va_recv hK hP (ci := 11) (q0 := 57) rfl (ix_at (lt71 (by omega)) (cX_text G ad S_20)), PcW_of hP hK hD _⟩ rfl rfl hl.1 rfl (lv_room (Nat.le_of_ble_eq_true rfl)) (fk_get fk_cX9_readAny_0 22 rfl) ⟨Nat.zero_le _, Nat.zero_le _⟩) hS (fun q _ h => hFc q h) hFc (fun r_24 S_26 t_ H locs ht_ hvm_ hw_25 hB_ hz_ hk_ hS => ?_)
        obtain ⟨hP, -, hD1_⟩ := hB_
        rw [ht_] at hP
        have hD : va_D A (wX G ad S_26) := hD1_.weaken (fun k q _ h => hFc q.1 h)
        try dsimp only at hw_25
        obtain ⟨hX_27, hF_28_, hw_25⟩ := hw_25
        have hF_28 : Fr (fun j k => (j = 57 ∧ (k = 2 ∨ k = 7 ∨ k = 8)) ∨ ((j = 59 ∨ j = 60) ∧ k = 99)) S S_26 := Fr.trans hF_22 (Fr.mono hF_28_ (fun j k h => by omega))
        obtain ⟨e_, hP39⟩ := hw_25
        subst e_
        have hp39 := (Fr.F hF_28_ (j := 57) (k := 2) (lt71 (by omega)) (fun q => by omega)).trans hp29
        have hT39 := hT29.fr hF_28_ (fun q => by omega) (fun q => by omega)
        refine lv_if_ne (tgt := 47) hx hb (fk_get fk_cX9_readAny_0 23 rfl) (by decide) (fun _ => ?_) (fun c_29 => absurd c_29 ((by decide)))
        refine lv_iinc (v := (nI (k + 1))) (lv' := [(2, .int ((nI (k + 1)))), (0, .ref (ad 57)), (1, .int (1))]) hx hb (fk_get fk_cX9_readAny_0 26 rfl) hl (k := 0) rfl ((nI_1 k)) (by decide) rfl (fun ls hl => ?_)
        refine lv_goto (tgt := 12) hx hb (fk_get fk_cX9_readAny_0 27 rfl) (by decide) ?_
        exact ih (k + 1) (((allP cdA (oneP cdA τ 3) τ) (q + 1)).2) ((cdA.2.2.2 L M)) (S_26) _ _ ls (hX_27) (hF_28) (by omega) (by omega) (hT39) (hp39) (g6) ((by rw [show (cdA.2.2.2 L M).length = L.length + M.length + 1 from op_len L M _]; omega)) (((hCl.keep hf21 (fun q => by omega) (fun q => by omega) (fun q => by omega)).app hC29).put (by rw [List.length_append, ← Nat.add_assoc]; exact hP39)) (((thn_s e29).symm.trans ((seq_s (by omega) h21).symm.trans hQ2))) hP hD hS (lv_sub hl [0, 1, 2] rfl)
    exact lp_7 (101) (0) (((allP cdA (oneP cdA τ 3) τ) pz).2) (L2) (S_3) _ _ ls (hX_4) (hF_5) (by omega) (by omega) (hT2) (hp2) (g2) (g4) (hC2) ((thn_s e2).symm) hP hD hS (lv_sub hl [0, 1, 2] rfl)
  obtain ⟨e2, hp2⟩ := rd_n hK2 (by assumption)
  refine lv_iconst (v := 0) hx hb (fk_get fk_cX9_readAny_0 4 rfl) (by decide) ?_
  subst hQ
  have hpost : XI S_3 ∧ Fr (fun j k => (j = 57 ∧ (k = 2 ∨ k = 7 ∨ k = 8)) ∨ ((j = 59 ∨ j = 60) ∧ k = 99)) S S_3 ∧ RdP (anyP cdA (oneP cdA τ 3) τ pz) c (0 : Int32) S S_3 := by
    exact ⟨hX_4, hF_5, by first | exact rd_0 (thn_n e2) hp2 | exact rd_1 (hQ2.symm.trans (seq_no n21 _)) hp21 (hCl.keep hf21 (fun q => by omega) (fun q => by omega) (fun q => by omega)) | exact rd_1 (hQ2.symm.trans (by rw [show 100 - k = 0 by omega]; rfl)) hql hCl | exact rd_0 (hQ2.symm.trans ((seq_s (by omega) h21).trans (thn_n e29))) hp29⟩
  exact W.zret (v := 0) hx hb hr rfl (fun t_ ht_ hW_ => ⟨⟨0, S_3, rfl, hpost, by rw [ht_]; exact hP, va_K.moved hW_.alike hK, hD⟩, hS.F ht_⟩) hS.2.2 (fk_get fk_cX9_readAny_0 5 rfl)
set_option maxHeartbeats 800000 in
set_option maxRecDepth 100000 in
theorem c_x9_one0E (l : Launch) (G : GG) (ad : Nat → Nat) (S : FS) (sz : Nat) (z pz c : Nat) (τ : Nat → Int32) (hTx : TXz S z τ) (hp : fF S 57 2 = nI pz) (hpz : pz ≤ z) (hc : fF S 57 7 = nI c) (hcp : c ≤ pz) (hX : XI S) : Met l yX9_readOne (Cond.code yX9_readOne cX9_readOne 4 (some .boolean) :: TBL) ({ frames := 19, cells := 0, slots := 0, locals := 514 } : Room) (PcE G (wX G ad S) sz [.ref (ad 57), .int (0)]) (va_Qi (fun (r : Int32) (S' : FS) => XI S' ∧ Fr (fun j k => (j = 57 ∧ (k = 2 ∨ k = 7 ∨ k = 8)) ∨ ((j = 59 ∨ j = 60) ∧ k = 99)) S S' ∧ RdP (oneP cdA τ 4 pz) c r S S') (fun S' t => BW G (va_A (wX G ad S) sz) (wX G ad S') t) (va_A (wX G ad S) sz)) 0 0 (va_A (wX G ad S) sz) := by
  refine Met.ofW (cc := cX9_readOne) (maxL := 4) (ret := (some .boolean)) (by decide) rfl ?_
  intro p e s m args below meth c₀ s₁ B hml hv
  obtain ⟨rfl, hsz, hP, hK, hD0, hE⟩ := hv
  have hx := B.exec
  have hb := B.bytes
  have hr := B.returns
  have hT : ∀ w ∈ TBL, w.before ([.ref (ad 57), .int (0)] : List Value).toArray s = true := fun w h => atoms_spec (ws := Cond.code yX9_readOne cX9_readOne 4 (some .boolean) :: TBL) B.pre w (List.mem_cons_of_mem _ h)
  have hown : s.vm.findClass "LittleMore$Text" = some m.cls := findClass_of_methodNamed B.named
  have hlocks := B.notSynchronized
  subst hsz
  have hD := hD0.self (sz := s.heap.size)
  generalize hAe : va_A (wX G ad S) s.heap.size = A at hD hE ⊢
  have hA : ∀ q : Nat, s.heap.size ≤ q → A q := fun q h => by rw [← hAe]; exact Or.inr h
  have hS : va_S A s.heap s.heap [] := va_S.rf
  have hP : va_P G.1 vwCl (wX G ad S) s.heap := hP
  have hl := lv_entry ([.ref (ad 57), .int (0)]) (n := 4) (Nat.le_of_ble_eq_true rfl)
  rw [lg_entry_eq]
  generalize (lg_sl ([.ref (ad 57), .int (0)]) ++ List.replicate (4 - (lg_sl ([.ref (ad 57), .int (0)])).length) Slot.unset).toArray = ls at hl ⊢
  have hl : lv_has ls 4 [(0, .ref (ad 57)), (1, .int (0))] := hl
  refine W_abs (fun Q hQ => ?_)
  generalize ([.ref (ad 57), .int (0)] : List Value).toArray = args at hT hQ ⊢
  have hz1 := hTx.2.1
  refine lv_iload_n hx hb (fk_get fk_cX9_readOne_0 0 rfl) rfl (lv_at hl 1 rfl) ?_
  refine lv_iconst (v := 4) hx hb (fk_get fk_cX9_readOne_0 1 rfl) (by decide) ?_
  refine lv_icmp_ge (tgt := 40) hx hb (fk_get fk_cX9_readOne_0 2 rfl) (by decide) (fun c_1 => absurd c_1 ((by decide))) (fun _ => ?_)
  refine lv_aload_n hx hb (fk_get fk_cX9_readOne_0 3 rfl) rfl (lv_at hl 0 rfl) ?_
  refine lv_bipush (v := 33) hx hb (fk_get fk_cX9_readOne_0 4 rfl) (by decide) ?_
  have hFc := va_self hD hS hA
  refine va_calli (va_runV (As := [.int (33)]) (rest := []) ⟨hx, hb, hml, hown, hT⟩ (c_x9_takesE l G ad S s.heap.size (z) (pz) (33) (τ) (by first | assumption | omega) (by first | assumption | omega) (by first | assumption | omega) (hX)) (tV 1 hT m2_213 m2_215 mp_0 m1_12 m2_216 rfl rfl (by decide +kernel) ⟨Nat.le_of_ble_eq_true rfl, Nat.le_of_ble_eq_true rfl⟩) ⟨PcW_blind, va_recv hK hP (ci := 11) (q0 := 57) rfl (ix_at (lt71 (by omega)) (cX_text G ad S)), PcW_of hP hK hD _⟩ rfl rfl hl.1 rfl (lv_room (Nat.le_of_ble_eq_true rfl)) (fk_get fk_cX9_readOne_0 5 rfl) ⟨Nat.zero_le _, Nat.zero_le _⟩) hS (fun q _ h => hFc q h) hFc (fun r_2 S_4 t_ H locs ht_ hvm_ hw_3 hB_ hz_ hk_ hS => ?_)
  obtain ⟨hP, -, hD1_⟩ := hB_
  rw [ht_] at hP
  have hD : va_D A (wX G ad S_4) := hD1_.weaken (fun k q _ h => hFc q.1 h)
  try dsimp only at hw_3
  obtain ⟨hX_5, hF_6_, hw_3⟩ := hw_3
  have hF_6 : Fr (fun j k => (j = 57 ∧ (k = 2 ∨ k = 7 ∨ k = 8)) ∨ ((j = 59 ∨ j = 60) ∧ k = 99)) S S_4 := Fr.trans (Fr.rf : Fr (fun j k => (j = 57 ∧ (k = 2 ∨ k = 7 ∨ k = 8)) ∨ ((j = 59 ∨ j = 60) ∧ k = 99)) S S) (Fr.mono hF_6_ (fun j k h => by omega))
  have hK8 := hw_3
  have hf8 := hF_6_
  have hT8 := hTx.fr hF_6_ (fun q => by omega) (fun q => by omega)
  have hc8 := (Fr.F hF_6_ (j := 57) (k := 7) (lt71 (by omega)) (fun q => by omega)).trans hc
  refine lv_if_eq (tgt := 40) hx hb (fk_get fk_cX9_readOne_0 6 rfl) (by decide) (fun c_7 => ?_) (fun c_7 => ?_)
  · obtain ⟨n33, hp8⟩ := tk_n hK8 c_7
    refine lv_iload_n hx hb (fk_get fk_cX9_readOne_0 22 rfl) rfl (lv_at hl 1 rfl) ?_
    refine lv_iconst (v := 4) hx hb (fk_get fk_cX9_readOne_0 23 rfl) (by decide) ?_
    refine lv_icmp_ge (tgt := 79) hx hb (fk_get fk_cX9_readOne_0 24 rfl) (by decide) (fun c_8 => absurd c_8 ((by decide))) (fun _ => ?_)
    refine lv_aload_n hx hb (fk_get fk_cX9_readOne_0 25 rfl) rfl (lv_at hl 0 rfl) ?_
    refine lv_bipush (v := 40) hx hb (fk_get fk_cX9_readOne_0 26 rfl) (by decide) ?_
    have hFc := va_self hD hS hA
    refine va_calli (va_runV (As := [.int (40)]) (rest := []) ⟨hx, hb, hml, hown, hT⟩ (c_x9_takesE l G ad S_4 H.size (z) (pz) (40) (τ) (by first | assumption | omega) (by first | assumption | omega) (by first | assumption | omega) (hX_5)) (tV 1 hT m2_213 m2_215 mp_0 m1_12 m2_216 rfl rfl (by decide +kernel) ⟨Nat.le_of_ble_eq_true rfl, Nat.le_of_ble_eq_true rfl⟩) ⟨PcW_blind, va_recv hK hP (ci := 11) (q0 := 57) rfl (ix_at (lt71 (by omega)) (cX_text G ad S_4)), PcW_of hP hK hD _⟩ rfl rfl hl.1 rfl (lv_room (Nat.le_of_ble_eq_true rfl)) (fk_get fk_cX9_readOne_0 27 rfl) ⟨Nat.zero_le _, Nat.zero_le _⟩) hS (fun q _ h => hFc q h) hFc (fun r_9 S_11 t_ H locs ht_ hvm_ hw_10 hB_ hz_ hk_ hS => ?_)
    obtain ⟨hP, -, hD1_⟩ := hB_
    rw [ht_] at hP
    have hD : va_D A (wX G ad S_11) := hD1_.weaken (fun k q _ h => hFc q.1 h)
    try dsimp only at hw_10
    obtain ⟨hX_12, hF_13_, hw_10⟩ := hw_10
    have hF_13 : Fr (fun j k => (j = 57 ∧ (k = 2 ∨ k = 7 ∨ k = 8)) ∨ ((j = 59 ∨ j = 60) ∧ k = 99)) S S_11 := Fr.trans hF_6 (Fr.mono hF_13_ (fun j k h => by omega))
    have hK48 := hw_10
    have hf48 := hF_13_
    have hT48 := hT8.fr hF_13_ (fun q => by omega) (fun q => by omega)
    have hc48 := (Fr.F hF_13_ (j := 57) (k := 7) (lt71 (by omega)) (fun q => by omega)).trans hc8
    refine lv_if_eq (tgt := 79) hx hb (fk_get fk_cX9_readOne_0 28 rfl) (by decide) (fun c_14 => ?_) (fun c_14 => ?_)
    · obtain ⟨n40, hp48⟩ := tk_n hK48 c_14
      refine lv_aload_n hx hb (fk_get fk_cX9_readOne_1 11 rfl) rfl (lv_at hl 0 rfl) ?_
      refine va_ldcS (q := G.2.2.2 (310 + 4)) (tx := txS 4) hx hb hown (hE.2.2.2.2.1.2 4 (by omega)) (fk_get fk_cX9_readOne_1 12 rfl) ?_
      have hFc := va_self hD hS hA
      refine va_calli (va_runV (As := [.ref (G.2.2.2 (310 + 4))]) (rest := []) ⟨hx, hb, hml, hown, hT⟩ (c_x9_tooE l G ad S_11 H.size (4) (z) (pz) (τ) ((by omega : 4 < 6)) (by first | assumption | omega) (by first | assumption | omega) (by first | assumption | omega) (hX_12)) (tV 1 hT m3_73 m3_75 mp_10 m1_12 m3_76 rfl rfl (by decide +kernel) ⟨Nat.le_of_ble_eq_true rfl, Nat.le_of_ble_eq_true rfl⟩) ⟨PcE_blind, va_recv hK hP (ci := 11) (q0 := 57) rfl (ix_at (lt71 (by omega)) (cX_text G ad S_11)), PcE_of hP hK hD hE hS (fun q h => hFc q h) _⟩ rfl rfl hl.1 rfl (lv_room (Nat.le_of_ble_eq_true rfl)) (fk_get fk_cX9_readOne_1 13 rfl) ⟨Nat.zero_le _, Nat.zero_le _⟩) hS (fun q _ h => hFc q h) hFc (fun r_15 S_17 t_ H locs ht_ hvm_ hw_16 hB_ hz_ hk_ hS => ?_)
      obtain ⟨hP, -, hD1_⟩ := hB_
      rw [ht_] at hP
      have hD : va_D A (wX G ad S_17) := hD1_.weaken (fun k q _ h => hFc q.1 h)
      try dsimp only at hw_16
      obtain ⟨hX_18, hF_19_, hw_16⟩ := hw_16
      have hF_19 : Fr (fun j k => (j = 57 ∧ (k = 2 ∨ k = 7 ∨ k = 8)) ∨ ((j = 59 ∨ j = 60) ∧ k = 99)) S S_17 := Fr.trans hF_13 (Fr.mono hF_19_ (fun j k h => by omega))
      have hK82 := hw_16
      have hf82 := hF_19_
      have hT82 := hT48.fr hF_19_ (fun q => by omega) (fun q => by omega)
      have hc82 := (Fr.F hF_19_ (j := 57) (k := 7) (lt71 (by omega)) (fun q => by omega)).trans hc48
      have hl82 := hK82.1.1 rfl
      subst hl82
      refine lv_istore_n (lv' := [(2, .int ((lix (τ pz)))), (0, .ref (ad 57)), (1, .int (0))]) hx hb (fk_get fk_cX9_readOne_1 14 rfl) rfl hl (by decide) rfl (fun ls hl => ?_)
      refine lv_iload_n hx hb (fk_get fk_cX9_readOne_1 15 rfl) rfl (lv_at hl 0 rfl) ?_
      refine lv_if_ge (tgt := 94) hx hb (fk_get fk_cX9_readOne_1 16 rfl) (by decide) (fun c_20 => ?_) (fun c_20 => ?_)
      · have hn82 : ¬ lix (τ pz) < 0 := Int32.not_lt.mpr c_20
        have hz82 := hTx.lt rfl (lix_ne hn82)
        have hp82 := (hK82.2.resolve_left (fun q => hn82 q.1)).2
        refine lv_aload_n hx hb (fk_get fk_cX9_readOne_1 19 rfl) rfl (lv_at hl 1 rfl) ?_
        refine va_ldcS (q := G.2.2.2 (310 + 5)) (tx := txS 5) hx hb hown (hE.2.2.2.2.1.2 5 (by omega)) (fk_get fk_cX9_readOne_1 20 rfl) ?_
        have hFc := va_self hD hS hA
        refine va_calli (va_runV (As := [.ref (G.2.2.2 (310 + 5))]) (rest := []) ⟨hx, hb, hml, hown, hT⟩ (c_x9_tooE l G ad S_17 H.size (5) (z) (pz + 1) (τ) ((by omega : 5 < 6)) (by first | assumption | omega) (by first | assumption | omega) (by first | assumption | omega) (hX_18)) (tV 1 hT m3_73 m3_75 mp_10 m1_12 m3_76 rfl rfl (by decide +kernel) ⟨Nat.le_of_ble_eq_true rfl, Nat.le_of_ble_eq_true rfl⟩) ⟨PcE_blind, va_recv hK hP (ci := 11) (q0 := 57) rfl (ix_at (lt71 (by omega)) (cX_text G ad S_17)), PcE_of hP hK hD hE hS (fun q h => hFc q h) _⟩ rfl rfl hl.1 rfl (lv_room (Nat.le_of_ble_eq_true rfl)) (fk_get fk_cX9_readOne_1 21 rfl) ⟨Nat.zero_le _, Nat.zero_le _⟩) hS (fun q _ h => hFc q h) hFc (fun r_21 S_23 t_ H locs ht_ hvm_ hw_22 hB_ hz_ hk_ hS => ?_)
        obtain ⟨hP, -, hD1_⟩ := hB_
        rw [ht_] at hP
        have hD : va_D A (wX G ad S_23) := hD1_.weaken (fun k q _ h => hFc q.1 h)
        try dsimp only at hw_22
        obtain ⟨hX_24, hF_25_, hw_22⟩ := hw_22
        have hF_25 : Fr (fun j k => (j = 57 ∧ (k = 2 ∨ k = 7 ∨ k = 8)) ∨ ((j = 59 ∨ j = 60) ∧ k = 99)) S S_23 := Fr.trans hF_19 (Fr.mono hF_25_ (fun j k h => by omega))
        have hK97 := hw_22
        have hf97 := hF_25_
        have hT97 := hT82.fr hF_25_ (fun q => by omega) (fun q => by omega)
        have hc97 := (Fr.F hF_25_ (j := 57) (k := 7) (lt71 (by omega)) (fun q => by omega)).trans hc82
        have hl97 := hK97.1.2 rfl
        subst hl97
        refine lv_istore_n (lv' := [(3, .int ((cix (τ (pz + 1))))), (2, .int ((lix (τ pz)))), (0, .ref (ad 57)), (1, .int (0))]) hx hb (fk_get fk_cX9_readOne_1 22 rfl) rfl hl (by decide) rfl (fun ls hl => ?_)
        refine lv_iload_n hx hb (fk_get fk_cX9_readOne_1 23 rfl) rfl (lv_at hl 0 rfl) ?_
        refine lv_if_lt (tgt := 132) hx hb (fk_get fk_cX9_readOne_1 24 rfl) (by decide) (fun c_26 => ?_) (fun c_26 => ?_)
        · try have hn97 : cix (τ (pz + 1)) < 0 := by assumption
          try have hp97 := (hK97.2.resolve_right (fun q => q.1 hn97)).2
          refine lv_iconst (v := 0) hx hb (fk_get fk_cX9_readOne_2 8 rfl) (by decide) ?_
          subst hQ
          have hpost : XI S_23 ∧ Fr (fun j k => (j = 57 ∧ (k = 2 ∨ k = 7 ∨ k = 8)) ∨ ((j = 59 ∨ j = 60) ∧ k = 99)) S S_23 ∧ RdP (oneP cdA τ 4 pz) c (0 : Int32) S S_23 := by
            exact ⟨hX_24, hF_25, by first | exact rd_1 ((one_33 (d := 3) h33).trans (thn_s e18)) hp28 ((hC18.base hf8 (fun q => by omega) (fun q => by omega)).put hP28) | exact rd_0 ((one_33 (d := 3) h33).trans (thn_n e18)) hp18 | exact rd_1 ((one_40 (d := 3) n33 h40).trans ((thn_s e58).trans (if_pos h41))) hp67 (((hC58.base hf48 (fun q => by omega) (fun q => by omega)).base hf8 (fun q => by omega) (fun q => by omega)).keep hf67 (fun q => by omega) (fun q => by omega) (fun q => by omega)) | exact rd_0 ((one_40 (d := 3) n33 h40).trans ((thn_s e58).trans (if_neg n41))) hp67 | exact rd_0 ((one_40 (d := 3) n33 h40).trans (thn_n e58)) hp58 | exact rd_0 ((one_t (d := 3) n33 n40).trans (tst_0 hn82)) hp82 | exact rd_0 ((one_t (d := 3) n33 n40).trans (tst_1 hn82 hn97)) hp97 | exact rd_0 ((one_t (d := 3) n33 n40).trans ((tst_2 hn82 hn97).trans (thn_n e106))) hp106 | exact rd_1 ((one_t (d := 3) n33 n40).trans ((tst_2 hn82 hn97).trans (thn_s e106))) hp122 (((((((CdP.nil hc).keep hf8 (fun q => by omega) (fun q => by omega) (fun q => by omega)).keep hf48 (fun q => by omega) (fun q => by omega) (fun q => by omega)).keep hf82 (fun q => by omega) (fun q => by omega) (fun q => by omega)).keep hf97 (fun q => by omega) (fun q => by omega) (fun q => by omega)).keep hf106 (fun q => by omega) (fun q => by omega) (fun q => by omega)).put hP122)⟩
          exact W.zret (v := 0) hx hb hr rfl (fun t_ ht_ hW_ => ⟨⟨0, S_23, rfl, hpost, by rw [ht_]; exact hP, va_K.moved hW_.alike hK, hD⟩, hS.F ht_⟩) hS.2.2 (fk_get fk_cX9_readOne_2 9 rfl)
        have hn97 : ¬ cix (τ (pz + 1)) < 0 := by first | assumption | exact Int32.not_lt.mpr c_26
        have hz97 := hTx.lt rfl (cix_ne hn97)
        have hp97 : fF S_23 57 2 = nI (pz + 2) := (hK97.2.resolve_left (fun q => hn97 q.1)).2
        refine lv_aload_n hx hb (fk_get fk_cX9_readOne_1 25 rfl) rfl (lv_at hl 2 rfl) ?_
        have hFc := va_self hD hS hA
        refine va_calli (va_runV (As := []) (rest := []) ⟨hx, hb, hml, hown, hT⟩ (c_x9_numE l G ad S_23 H.size (z) (pz + 2) (τ) (by first | assumption | omega) (by first | assumption | omega) (by first | assumption | omega) (hX_24)) (tV 0 hT m3_49 m3_51 mp_5 m1_12 m3_52 rfl rfl (by decide +kernel) ⟨Nat.le_of_ble_eq_true rfl, Nat.le_of_ble_eq_true rfl⟩) ⟨PcW_blind, va_recv hK hP (ci := 11) (q0 := 57) rfl (ix_at (lt71 (by omega)) (cX_text G ad S_23)), PcW_of hP hK hD _⟩ rfl rfl hl.1 rfl (lv_room (Nat.le_of_ble_eq_true rfl)) (fk_get fk_cX9_readOne_1 26 rfl) ⟨Nat.zero_le _, Nat.zero_le _⟩) hS (fun q _ h => hFc q h) hFc (fun r_27 S_29 t_ H locs ht_ hvm_ hw_28 hB_ hz_ hk_ hS => ?_)
        obtain ⟨hP, -, hD1_⟩ := hB_
        rw [ht_] at hP
        have hD : va_D A (wX G ad S_29) := hD1_.weaken (fun k q _ h => hFc q.1 h)
        try dsimp only at hw_28
        obtain ⟨hX_30, hF_31_, hw_28⟩ := hw_28
        have hF_31 : Fr (fun j k => (j = 57 ∧ (k = 2 ∨ k = 7 ∨ k = 8)) ∨ ((j = 59 ∨ j = 60) ∧ k = 99)) S S_29 := Fr.trans hF_25 (Fr.mono hF_31_ (fun j k h => by omega))
        have hK106 := hw_28
        have hf106 := hF_31_
        have hT106 := hT97.fr hF_31_ (fun q => by omega) (fun q => by omega)
        have hc106 := (Fr.F hF_31_ (j := 57) (k := 7) (lt71 (by omega)) (fun q => by omega)).trans hc97
        refine lv_if_eq (tgt := 132) hx hb (fk_get fk_cX9_readOne_1 27 rfl) (by decide) (fun c_32 => ?_) (fun c_32 => ?_)
        · obtain ⟨e106, hp106⟩ := nu_n hK106 c_32
          refine lv_iconst (v := 0) hx hb (fk_get fk_cX9_readOne_2 8 rfl) (by decide) ?_
          subst hQ
          have hpost : XI S_29 ∧ Fr (fun j k => (j = 57 ∧ (k = 2 ∨ k = 7 ∨ k = 8)) ∨ ((j = 59 ∨ j = 60) ∧ k = 99)) S S_29 ∧ RdP (oneP cdA τ 4 pz) c (0 : Int32) S S_29 := by
            exact ⟨hX_30, hF_31, by first | exact rd_1 ((one_33 (d := 3) h33).trans (thn_s e18)) hp28 ((hC18.base hf8 (fun q => by omega) (fun q => by omega)).put hP28) | exact rd_0 ((one_33 (d := 3) h33).trans (thn_n e18)) hp18 | exact rd_1 ((one_40 (d := 3) n33 h40).trans ((thn_s e58).trans (if_pos h41))) hp67 (((hC58.base hf48 (fun q => by omega) (fun q => by omega)).base hf8 (fun q => by omega) (fun q => by omega)).keep hf67 (fun q => by omega) (fun q => by omega) (fun q => by omega)) | exact rd_0 ((one_40 (d := 3) n33 h40).trans ((thn_s e58).trans (if_neg n41))) hp67 | exact rd_0 ((one_40 (d := 3) n33 h40).trans (thn_n e58)) hp58 | exact rd_0 ((one_t (d := 3) n33 n40).trans (tst_0 hn82)) hp82 | exact rd_0 ((one_t (d := 3) n33 n40).trans (tst_1 hn82 hn97)) hp97 | exact rd_0 ((one_t (d := 3) n33 n40).trans ((tst_2 hn82 hn97).trans (thn_n e106))) hp106 | exact rd_1 ((one_t (d := 3) n33 n40).trans ((tst_2 hn82 hn97).trans (thn_s e106))) hp122 (((((((CdP.nil hc).keep hf8 (fun q => by omega) (fun q => by omega) (fun q => by omega)).keep hf48 (fun q => by omega) (fun q => by omega) (fun q => by omega)).keep hf82 (fun q => by omega) (fun q => by omega) (fun q => by omega)).keep hf97 (fun q => by omega) (fun q => by omega) (fun q => by omega)).keep hf106 (fun q => by omega) (fun q => by omega) (fun q => by omega)).put hP122)⟩
          exact W.zret (v := 0) hx hb hr rfl (fun t_ ht_ hW_ => ⟨⟨0, S_29, rfl, hpost, by rw [ht_]; exact hP, va_K.moved hW_.alike hK, hD⟩, hS.F ht_⟩) hS.2.2 (fk_get fk_cX9_readOne_2 9 rfl)
        obtain ⟨v106, e106, hp106, hv106⟩ := nu_y hK106 c_32
        obtain ⟨g1, g2, g3⟩ := hTx.num (p := pz + 2) (by omega)
        have g4 := g3 (by rw [e106]; exact fun q => by cases q)
        refine lv_aload_n hx hb (fk_get fk_cX9_readOne_1 28 rfl) rfl (lv_at hl 2 rfl) ?_
        refine lv_iload_n hx hb (fk_get fk_cX9_readOne_1 29 rfl) rfl (lv_at hl 1 rfl) ?_
        refine lv_iconst (v := 3) hx hb (fk_get fk_cX9_readOne_1 30 rfl) (by decide) ?_
        refine lv_imul hx hb (fk_get fk_cX9_readOne_1 31 rfl) ?_
        refine lv_iload_n hx hb (fk_get fk_cX9_readOne_2 0 rfl) rfl (lv_at hl 0 rfl) ?_
        refine lv_iadd hx hb (fk_get fk_cX9_readOne_2 1 rfl) ?_
        refine lv_aload_n hx hb (fk_get fk_cX9_readOne_2 2 rfl) rfl (lv_at hl 2 rfl) ?_
        refine va_get (D := G.1) (ci := 11) (v := .int (fF S_29 57 8)) (C := RX9) (T := TX9) (N := 9) hx hb hT inX9 hown hK hP 57 (ix_at (lt71 (by omega)) (cX_text G ad S_29)) rfl 8 (by decide) (hT _ m2_17) (fun _ h9 => h9) rfl (fk_get fk_cX9_readOne_2 3 rfl) ?_
        rw [show (fF S_29 57 8) = v106 from hv106]
        have hFc := va_self hD hS hA
        refine va_calli (va_runV (As := [.int ((((lix (τ pz)) * 3) + (cix (τ (pz + 1))))), .int (v106)]) (rest := []) ⟨hx, hb, hml, hown, hT⟩ (c_x9_putE l G ad S_29 H.size (c) ((((lix (τ pz)) * 3) + (cix (τ (pz + 1))))) (v106) (by first | assumption | omega) (by first | assumption | omega) (hX_30)) (tV 2 hT m3_68 m3_70 mp_9 m1_12 m3_71 rfl rfl (by decide +kernel) ⟨Nat.le_of_ble_eq_true rfl, Nat.le_of_ble_eq_true rfl⟩) ⟨PcW_blind, va_recv hK hP (ci := 11) (q0 := 57) rfl (ix_at (lt71 (by omega)) (cX_text G ad S_29)), PcW_of hP hK hD _⟩ rfl rfl hl.1 rfl (lv_room (Nat.le_of_ble_eq_true rfl)) (fk_get fk_cX9_readOne_2 4 rfl) ⟨Nat.zero_le _, Nat.zero_le _⟩) hS (fun q _ h => hFc q h) hFc (fun r_33 S_35 t_ H locs ht_ hvm_ hw_34 hB_ hz_ hk_ hS => ?_)
        obtain ⟨hP, -, hD1_⟩ := hB_
        rw [ht_] at hP
        have hD : va_D A (wX G ad S_35) := hD1_.weaken (fun k q _ h => hFc q.1 h)
        try dsimp only at hw_34
        obtain ⟨hX_36, hF_37_, hw_34⟩ := hw_34
        have hF_37 : Fr (fun j k => (j = 57 ∧ (k = 2 ∨ k = 7 ∨ k = 8)) ∨ ((j = 59 ∨ j = 60) ∧ k = 99)) S S_35 := Fr.trans hF_31 (Fr.mono hF_37_ (fun j k h => by omega))
        obtain ⟨e_, hP122⟩ := hw_34
        subst e_
        have hp122 := (Fr.F hF_37_ (j := 57) (k := 2) (lt71 (by omega)) (fun q => by omega)).trans hp106
        refine lv_if_eq (tgt := 132) hx hb (fk_get fk_cX9_readOne_2 5 rfl) (by decide) (fun c_38 => absurd c_38 ((by decide))) (fun _ => ?_)
        refine lv_iconst (v := 1) hx hb (fk_get fk_cX9_readOne_2 6 rfl) (by decide) ?_
        refine lv_goto (tgt := 133) hx hb (fk_get fk_cX9_readOne_2 7 rfl) (by decide) ?_
        subst hQ
        have hpost : XI S_35 ∧ Fr (fun j k => (j = 57 ∧ (k = 2 ∨ k = 7 ∨ k = 8)) ∨ ((j = 59 ∨ j = 60) ∧ k = 99)) S S_35 ∧ RdP (oneP cdA τ 4 pz) c (1 : Int32) S S_35 := by
          exact ⟨hX_36, hF_37, by first | exact rd_1 ((one_33 (d := 3) h33).trans (thn_s e18)) hp28 ((hC18.base hf8 (fun q => by omega) (fun q => by omega)).put hP28) | exact rd_0 ((one_33 (d := 3) h33).trans (thn_n e18)) hp18 | exact rd_1 ((one_40 (d := 3) n33 h40).trans ((thn_s e58).trans (if_pos h41))) hp67 (((hC58.base hf48 (fun q => by omega) (fun q => by omega)).base hf8 (fun q => by omega) (fun q => by omega)).keep hf67 (fun q => by omega) (fun q => by omega) (fun q => by omega)) | exact rd_0 ((one_40 (d := 3) n33 h40).trans ((thn_s e58).trans (if_neg n41))) hp67 | exact rd_0 ((one_40 (d := 3) n33 h40).trans (thn_n e58)) hp58 | exact rd_0 ((one_t (d := 3) n33 n40).trans (tst_0 hn82)) hp82 | exact rd_0 ((one_t (d := 3) n33 n40).trans (tst_1 hn82 hn97)) hp97 | exact rd_0 ((one_t (d := 3) n33 n40).trans ((tst_2 hn82 hn97).trans (thn_n e106))) hp106 | exact rd_1 ((one_t (d := 3) n33 n40).trans ((tst_2 hn82 hn97).trans (thn_s e106))) hp122 (((((((CdP.nil hc).keep hf8 (fun q => by omega) (fun q => by omega) (fun q => by omega)).keep hf48 (fun q => by omega) (fun q => by omega) (fun q => by omega)).keep hf82 (fun q => by omega) (fun q => by omega) (fun q => by omega)).keep hf97 (fun q => by omega) (fun q => by omega) (fun q => by omega)).keep hf106 (fun q => by omega) (fun q => by omega) (fun q => by omega)).put hP122)⟩
        exact W.zret (v := 1) hx hb hr rfl (fun t_ ht_ hW_ => ⟨⟨1, S_35, rfl, hpost, by rw [ht_]; exact hP, va_K.moved hW_.alike hK, hD⟩, hS.F ht_⟩) hS.2.2 (fk_get fk_cX9_readOne_2 9 rfl)
      have hn82 : lix (τ pz) < 0 := Int32.not_le.mp c_20
      have hp82 := (hK82.2.resolve_right (fun q => q.1 hn82)).2
      refine lv_iload_n hx hb (fk_get fk_cX9_readOne_1 17 rfl) rfl (lv_at hl 0 rfl) ?_
      refine lv_goto (tgt := 100) hx hb (fk_get fk_cX9_readOne_1 18 rfl) (by decide) ?_
      refine lv_istore_n (lv' := [(3, .int ((lix (τ pz)))), (2, .int ((lix (τ pz)))), (0, .ref (ad 57)), (1, .int (0))]) hx hb (fk_get fk_cX9_readOne_1 22 rfl) rfl hl (by decide) rfl (fun ls hl => ?_)
      refine lv_iload_n hx hb (fk_get fk_cX9_readOne_1 23 rfl) rfl (lv_at hl 0 rfl) ?_
      refine lv_if_lt (tgt := 132) hx hb (fk_get fk_cX9_readOne_1 24 rfl) (by decide) (fun _ => ?_) (fun c_39 => absurd (by first | assumption | exact Int32.not_lt.mp (by assumption) | exact Int32.not_le.mp (by assumption) | exact Int32.not_lt.mpr (by assumption) | exact Int32.not_le.mpr (by assumption) ) c_39)
      try have hn97 : cix (τ (pz + 1)) < 0 := by assumption
      try have hp97 := (hK97.2.resolve_right (fun q => q.1 hn97)).2
      refine lv_iconst (v := 0) hx hb (fk_get fk_cX9_readOne_2 8 rfl) (by decide) ?_
      subst hQ
      have hpost : XI S_17 ∧ Fr (fun j k => (j = 57 ∧ (k = 2 ∨ k = 7 ∨ k = 8)) ∨ ((j = 59 ∨ j = 60) ∧ k = 99)) S S_17 ∧ RdP (oneP cdA τ 4 pz) c (0 : Int32) S S_17 := by
        exact ⟨hX_18, hF_19, by first | exact rd_1 ((one_33 (d := 3) h33).trans (thn_s e18)) hp28 ((hC18.base hf8 (fun q => by omega) (fun q => by omega)).put hP28) | exact rd_0 ((one_33 (d := 3) h33).trans (thn_n e18)) hp18 | exact rd_1 ((one_40 (d := 3) n33 h40).trans ((thn_s e58).trans (if_pos h41))) hp67 (((hC58.base hf48 (fun q => by omega) (fun q => by omega)).base hf8 (fun q => by omega) (fun q => by omega)).keep hf67 (fun q => by omega) (fun q => by omega) (fun q => by omega)) | exact rd_0 ((one_40 (d := 3) n33 h40).trans ((thn_s e58).trans (if_neg n41))) hp67 | exact rd_0 ((one_40 (d := 3) n33 h40).trans (thn_n e58)) hp58 | exact rd_0 ((one_t (d := 3) n33 n40).trans (tst_0 hn82)) hp82 | exact rd_0 ((one_t (d := 3) n33 n40).trans (tst_1 hn82 hn97)) hp97 | exact rd_0 ((one_t (d := 3) n33 n40).trans ((tst_2 hn82 hn97).trans (thn_n e106))) hp106 | exact rd_1 ((one_t (d := 3) n33 n40).trans ((tst_2 hn82 hn97).trans (thn_s e106))) hp122 (((((((CdP.nil hc).keep hf8 (fun q => by omega) (fun q => by omega) (fun q => by omega)).keep hf48 (fun q => by omega) (fun q => by omega) (fun q => by omega)).keep hf82 (fun q => by omega) (fun q => by omega) (fun q => by omega)).keep hf97 (fun q => by omega) (fun q => by omega) (fun q => by omega)).keep hf106 (fun q => by omega) (fun q => by omega) (fun q => by omega)).put hP122)⟩
      exact W.zret (v := 0) hx hb hr rfl (fun t_ ht_ hW_ => ⟨⟨0, S_17, rfl, hpost, by rw [ht_]; exact hP, va_K.moved hW_.alike hK, hD⟩, hS.F ht_⟩) hS.2.2 (fk_get fk_cX9_readOne_2 9 rfl)
    obtain ⟨h40, hp48⟩ := tk_y hK48 c_14
    have hz40 := hTx.lt h40 (by decide)
    refine lv_aload_n hx hb (fk_get fk_cX9_readOne_0 29 rfl) rfl (lv_at hl 0 rfl) ?_
    refine lv_iload_n hx hb (fk_get fk_cX9_readOne_0 30 rfl) rfl (lv_at hl 1 rfl) ?_
    refine lv_iconst (v := 1) hx hb (fk_get fk_cX9_readOne_0 31 rfl) (by decide) ?_
    refine lv_iadd hx hb (fk_get fk_cX9_readOne_1 0 rfl) ?_
    rw [show ((0 + 1) : Int32) = 1 from by decide]
    have hFc := va_self hD hS hA
    refine va_calli (va_runV (As := [.int (1)]) (rest := []) ⟨hx, hb, hml, hown, hT⟩ (c_x9_any1E l G ad S_11 H.size (z) (pz + 1) (c) (τ) (by first | assumption | omega) (by first | assumption | omega) (by first | assumption | omega) (by first | assumption | omega) (by first | assumption | omega) (hX_12)) (tV 1 hT m3_56 m3_58 mp_6 m1_12 m3_59 rfl rfl (by decide +kernel) ⟨Nat.le_of_ble_eq_true rfl, Nat.le_of_ble_eq_true rfl⟩) ⟨PcE_blind, va_recv hK hP (ci := 11) (q0 := 57) rfl (ix_at (lt71 (by omega)) (cX_text G ad S_11)), PcE_of hP hK hD hE hS (fun q h => hFc q h) _⟩ rfl rfl hl.1 rfl (lv_room (Nat.le_of_ble_eq_true rfl)) (fk_get fk_cX9_readOne_1 1 rfl) ⟨Nat.zero_le _, Nat.zero_le _⟩) hS (fun q _ h => hFc q h) hFc (fun r_40 S_42 t_ H locs ht_ hvm_ hw_41 hB_ hz_ hk_ hS => ?_)
    obtain ⟨hP, -, hD1_⟩ := hB_
    rw [ht_] at hP
    have hD : va_D A (wX G ad S_42) := hD1_.weaken (fun k q _ h => hFc q.1 h)
    try dsimp only at hw_41
    obtain ⟨hX_43, hF_44_, hw_41⟩ := hw_41
    have hF_44 : Fr (fun j k => (j = 57 ∧ (k = 2 ∨ k = 7 ∨ k = 8)) ∨ ((j = 59 ∨ j = 60) ∧ k = 99)) S S_42 := Fr.trans hF_13 (Fr.mono hF_44_ (fun j k h => by omega))
    have hK58 := hw_41
    have hf58 := hF_44_
    have hT58 := hT48.fr hF_44_ (fun q => by omega) (fun q => by omega)
    refine lv_if_eq (tgt := 77) hx hb (fk_get fk_cX9_readOne_1 2 rfl) (by decide) (fun c_45 => ?_) (fun c_45 => ?_)
    · obtain ⟨e58, hp58⟩ := rd_n hK58 c_45
      refine lv_iconst (v := 0) hx hb (fk_get fk_cX9_readOne_1 9 rfl) (by decide) ?_
      subst hQ
      have hpost : XI S_42 ∧ Fr (fun j k => (j = 57 ∧ (k = 2 ∨ k = 7 ∨ k = 8)) ∨ ((j = 59 ∨ j = 60) ∧ k = 99)) S S_42 ∧ RdP (oneP cdA τ 4 pz) c (0 : Int32) S S_42 := by
        exact ⟨hX_43, hF_44, by first | exact rd_1 ((one_33 (d := 3) h33).trans (thn_s e18)) hp28 ((hC18.base hf8 (fun q => by omega) (fun q => by omega)).put hP28) | exact rd_0 ((one_33 (d := 3) h33).trans (thn_n e18)) hp18 | exact rd_1 ((one_40 (d := 3) n33 h40).trans ((thn_s e58).trans (if_pos h41))) hp67 (((hC58.base hf48 (fun q => by omega) (fun q => by omega)).base hf8 (fun q => by omega) (fun q => by omega)).keep hf67 (fun q => by omega) (fun q => by omega) (fun q => by omega)) | exact rd_0 ((one_40 (d := 3) n33 h40).trans ((thn_s e58).trans (if_neg n41))) hp67 | exact rd_0 ((one_40 (d := 3) n33 h40).trans (thn_n e58)) hp58 | exact rd_0 ((one_t (d := 3) n33 n40).trans (tst_0 hn82)) hp82 | exact rd_0 ((one_t (d := 3) n33 n40).trans (tst_1 hn82 hn97)) hp97 | exact rd_0 ((one_t (d := 3) n33 n40).trans ((tst_2 hn82 hn97).trans (thn_n e106))) hp106 | exact rd_1 ((one_t (d := 3) n33 n40).trans ((tst_2 hn82 hn97).trans (thn_s e106))) hp122 (((((((CdP.nil hc).keep hf8 (fun q => by omega) (fun q => by omega) (fun q => by omega)).keep hf48 (fun q => by omega) (fun q => by omega) (fun q => by omega)).keep hf82 (fun q => by omega) (fun q => by omega) (fun q => by omega)).keep hf97 (fun q => by omega) (fun q => by omega) (fun q => by omega)).keep hf106 (fun q => by omega) (fun q => by omega) (fun q => by omega)).put hP122)⟩
      exact W.zret (v := 0) hx hb hr rfl (fun t_ ht_ hW_ => ⟨⟨0, S_42, rfl, hpost, by rw [ht_]; exact hP, va_K.moved hW_.alike hK, hD⟩, hS.F ht_⟩) hS.2.2 (fk_get fk_cX9_readOne_1 10 rfl)
    obtain ⟨L58, e58, hp58, hC58⟩ := rd_y hK58 c_45
    obtain ⟨g1, g2, g3⟩ := hTx.any 3 (pz + 1) (by omega)
    have g4 := g3 L58 e58
    refine lv_aload_n hx hb (fk_get fk_cX9_readOne_1 3 rfl) rfl (lv_at hl 0 rfl) ?_
    refine lv_bipush (v := 41) hx hb (fk_get fk_cX9_readOne_1 4 rfl) (by decide) ?_
    have hFc := va_self hD hS hA
    refine va_calli (va_runV (As := [.int (41)]) (rest := []) ⟨hx, hb, hml, hown, hT⟩ (c_x9_takesE l G ad S_42 H.size (z) ((anyP cdA (oneP cdA τ 3) τ (pz + 1)).2) (41) (τ) (by first | assumption | omega) (by first | assumption | omega) (by first | assumption | omega) (hX_43)) (tV 1 hT m2_213 m2_215 mp_0 m1_12 m2_216 rfl rfl (by decide +kernel) ⟨Nat.le_of_ble_eq_true rfl, Nat.le_of_ble_eq_true rfl⟩) ⟨PcW_blind, va_recv hK hP (ci := 11) (q0 := 57) rfl (ix_at (lt71 (by omega)) (cX_text G ad S_42)), PcW_of hP hK hD _⟩ rfl rfl hl.1 rfl (lv_room (Nat.le_of_ble_eq_true rfl)) (fk_get fk_cX9_readOne_1 5 rfl) ⟨Nat.zero_le _, Nat.zero_le _⟩) hS (fun q _ h => hFc q h) hFc (fun r_46 S_48 t_ H locs ht_ hvm_ hw_47 hB_ hz_ hk_ hS => ?_)
    obtain ⟨hP, -, hD1_⟩ := hB_
    rw [ht_] at hP
    have hD : va_D A (wX G ad S_48) := hD1_.weaken (fun k q _ h => hFc q.1 h)
    try dsimp only at hw_47
    obtain ⟨hX_49, hF_50_, hw_47⟩ := hw_47
    have hF_50 : Fr (fun j k => (j = 57 ∧ (k = 2 ∨ k = 7 ∨ k = 8)) ∨ ((j = 59 ∨ j = 60) ∧ k = 99)) S S_48 := Fr.trans hF_44 (Fr.mono hF_50_ (fun j k h => by omega))
    have hK67 := hw_47
    have hf67 := hF_50_
    refine lv_if_eq (tgt := 77) hx hb (fk_get fk_cX9_readOne_1 6 rfl) (by decide) (fun c_51 => ?_) (fun c_51 => ?_)
    · obtain ⟨n41, hp67⟩ := tk_n hK67 c_51
      refine lv_iconst (v := 0) hx hb (fk_get fk_cX9_readOne_1 9 rfl) (by decide) ?_
      subst hQ
      have hpost : XI S_48 ∧ Fr (fun j k => (j = 57 ∧ (k = 2 ∨ k = 7 ∨ k = 8)) ∨ ((j = 59 ∨ j = 60) ∧ k = 99)) S S_48 ∧ RdP (oneP cdA τ 4 pz) c (0 : Int32) S S_48 := by
        exact ⟨hX_49, hF_50, by first | exact rd_1 ((one_33 (d := 3) h33).trans (thn_s e18)) hp28 ((hC18.base hf8 (fun q => by omega) (fun q => by omega)).put hP28) | exact rd_0 ((one_33 (d := 3) h33).trans (thn_n e18)) hp18 | exact rd_1 ((one_40 (d := 3) n33 h40).trans ((thn_s e58).trans (if_pos h41))) hp67 (((hC58.base hf48 (fun q => by omega) (fun q => by omega)).base hf8 (fun q => by omega) (fun q => by omega)).keep hf67 (fun q => by omega) (fun q => by omega) (fun q => by omega)) | exact rd_0 ((one_40 (d := 3) n33 h40).trans ((thn_s e58).trans (if_neg n41))) hp67 | exact rd_0 ((one_40 (d := 3) n33 h40).trans (thn_n e58)) hp58 | exact rd_0 ((one_t (d := 3) n33 n40).trans (tst_0 hn82)) hp82 | exact rd_0 ((one_t (d := 3) n33 n40).trans (tst_1 hn82 hn97)) hp97 | exact rd_0 ((one_t (d := 3) n33 n40).trans ((tst_2 hn82 hn97).trans (thn_n e106))) hp106 | exact rd_1 ((one_t (d := 3) n33 n40).trans ((tst_2 hn82 hn97).trans (thn_s e106))) hp122 (((((((CdP.nil hc).keep hf8 (fun q => by omega) (fun q => by omega) (fun q => by omega)).keep hf48 (fun q => by omega) (fun q => by omega) (fun q => by omega)).keep hf82 (fun q => by omega) (fun q => by omega) (fun q => by omega)).keep hf97 (fun q => by omega) (fun q => by omega) (fun q => by omega)).keep hf106 (fun q => by omega) (fun q => by omega) (fun q => by omega)).put hP122)⟩
      exact W.zret (v := 0) hx hb hr rfl (fun t_ ht_ hW_ => ⟨⟨0, S_48, rfl, hpost, by rw [ht_]; exact hP, va_K.moved hW_.alike hK, hD⟩, hS.F ht_⟩) hS.2.2 (fk_get fk_cX9_readOne_1 10 rfl)
    obtain ⟨h41, hp67⟩ := tk_y hK67 c_51
    refine lv_iconst (v := 1) hx hb (fk_get fk_cX9_readOne_1 7 rfl) (by decide) ?_
    refine lv_goto (tgt := 78) hx hb (fk_get fk_cX9_readOne_1 8 rfl) (by decide) ?_
    subst hQ
    have hpost : XI S_48 ∧ Fr (fun j k => (j = 57 ∧ (k = 2 ∨ k = 7 ∨ k = 8)) ∨ ((j = 59 ∨ j = 60) ∧ k = 99)) S S_48 ∧ RdP (oneP cdA τ 4 pz) c (1 : Int32) S S_48 := by
      exact ⟨hX_49, hF_50, by first | exact rd_1 ((one_33 (d := 3) h33).trans (thn_s e18)) hp28 ((hC18.base hf8 (fun q => by omega) (fun q => by omega)).put hP28) | exact rd_0 ((one_33 (d := 3) h33).trans (thn_n e18)) hp18 | exact rd_1 ((one_40 (d := 3) n33 h40).trans ((thn_s e58).trans (if_pos h41))) hp67 (((hC58.base hf48 (fun q => by omega) (fun q => by omega)).base hf8 (fun q => by omega) (fun q => by omega)).keep hf67 (fun q => by omega) (fun q => by omega) (fun q => by omega)) | exact rd_0 ((one_40 (d := 3) n33 h40).trans ((thn_s e58).trans (if_neg n41))) hp67 | exact rd_0 ((one_40 (d := 3) n33 h40).trans (thn_n e58)) hp58 | exact rd_0 ((one_t (d := 3) n33 n40).trans (tst_0 hn82)) hp82 | exact rd_0 ((one_t (d := 3) n33 n40).trans (tst_1 hn82 hn97)) hp97 | exact rd_0 ((one_t (d := 3) n33 n40).trans ((tst_2 hn82 hn97).trans (thn_n e106))) hp106 | exact rd_1 ((one_t (d := 3) n33 n40).trans ((tst_2 hn82 hn97).trans (thn_s e106))) hp122 (((((((CdP.nil hc).keep hf8 (fun q => by omega) (fun q => by omega) (fun q => by omega)).keep hf48 (fun q => by omega) (fun q => by omega) (fun q => by omega)).keep hf82 (fun q => by omega) (fun q => by omega) (fun q => by omega)).keep hf97 (fun q => by omega) (fun q => by omega) (fun q => by omega)).keep hf106 (fun q => by omega) (fun q => by omega) (fun q => by omega)).put hP122)⟩
    exact W.zret (v := 1) hx hb hr rfl (fun t_ ht_ hW_ => ⟨⟨1, S_48, rfl, hpost, by rw [ht_]; exact hP, va_K.moved hW_.alike hK, hD⟩, hS.F ht_⟩) hS.2.2 (fk_get fk_cX9_readOne_1 10 rfl)
  obtain ⟨h33, hp8⟩ := tk_y hK8 c_7
  have hz33 := hTx.lt h33 (by decide)
  refine lv_aload_n hx hb (fk_get fk_cX9_readOne_0 7 rfl) rfl (lv_at hl 0 rfl) ?_
  refine lv_iload_n hx hb (fk_get fk_cX9_readOne_0 8 rfl) rfl (lv_at hl 1 rfl) ?_
  refine lv_iconst (v := 1) hx hb (fk_get fk_cX9_readOne_0 9 rfl) (by decide) ?_
  refine lv_iadd hx hb (fk_get fk_cX9_readOne_0 10 rfl) ?_
  rw [show ((0 + 1) : Int32) = 1 from by decide]
  have hFc := va_self hD hS hA
  refine va_calli (va_runV (As := [.int (1)]) (rest := []) ⟨hx, hb, hml, hown, hT⟩ (c_x9_one1E l G ad S_4 H.size (z) (pz + 1) (c) (τ) (by first | assumption | omega) (by first | assumption | omega) (by first | assumption | omega) (by first | assumption | omega) (by first | assumption | omega) (hX_5)) (tV 1 hT m3_64 m3_66 mp_8 m1_12 m3_67 rfl rfl (by decide +kernel) ⟨Nat.le_of_ble_eq_true rfl, Nat.le_of_ble_eq_true rfl⟩) ⟨PcE_blind, va_recv hK hP (ci := 11) (q0 := 57) rfl (ix_at (lt71 (by omega)) (cX_text G ad S_4)), PcE_of hP hK hD hE hS (fun q h => hFc q h) _⟩ rfl rfl hl.1 rfl (lv_room (Nat.le_of_ble_eq_true rfl)) (fk_get fk_cX9_readOne_0 11 rfl) ⟨Nat.zero_le _, Nat.zero_le _⟩) hS (fun q _ h => hFc q h) hFc (fun r_52 S_54 t_ H locs ht_ hvm_ hw_53 hB_ hz_ hk_ hS => ?_)
  obtain ⟨hP, -, hD1_⟩ := hB_
  rw [ht_] at hP
  have hD : va_D A (wX G ad S_54) := hD1_.weaken (fun k q _ h => hFc q.1 h)
  try dsimp only at hw_53
  obtain ⟨hX_55, hF_56_, hw_53⟩ := hw_53
  have hF_56 : Fr (fun j k => (j = 57 ∧ (k = 2 ∨ k = 7 ∨ k = 8)) ∨ ((j = 59 ∨ j = 60) ∧ k = 99)) S S_54 := Fr.trans hF_6 (Fr.mono hF_56_ (fun j k h => by omega))
  have hK18 := hw_53
  have hf18 := hF_56_
  have hT18 := hT8.fr hF_56_ (fun q => by omega) (fun q => by omega)
  refine lv_if_eq (tgt := 38) hx hb (fk_get fk_cX9_readOne_0 12 rfl) (by decide) (fun c_57 => ?_) (fun c_57 => ?_)
  · obtain ⟨e18, hp18⟩ := rd_n hK18 c_57
    refine lv_iconst (v := 0) hx hb (fk_get fk_cX9_readOne_0 20 rfl) (by decide) ?_
    subst hQ
    have hpost : XI S_54 ∧ Fr (fun j k => (j = 57 ∧ (k = 2 ∨ k = 7 ∨ k = 8)) ∨ ((j = 59 ∨ j = 60) ∧ k = 99)) S S_54 ∧ RdP (oneP cdA τ 4 pz) c (0 : Int32) S S_54 := by
      exact ⟨hX_55, hF_56, by first | exact rd_1 ((one_33 (d := 3) h33).trans (thn_s e18)) hp28 ((hC18.base hf8 (fun q => by omega) (fun q => by omega)).put hP28) | exact rd_0 ((one_33 (d := 3) h33).trans (thn_n e18)) hp18 | exact rd_1 ((one_40 (d := 3) n33 h40).trans ((thn_s e58).trans (if_pos h41))) hp67 (((hC58.base hf48 (fun q => by omega) (fun q => by omega)).base hf8 (fun q => by omega) (fun q => by omega)).keep hf67 (fun q => by omega) (fun q => by omega) (fun q => by omega)) | exact rd_0 ((one_40 (d := 3) n33 h40).trans ((thn_s e58).trans (if_neg n41))) hp67 | exact rd_0 ((one_40 (d := 3) n33 h40).trans (thn_n e58)) hp58 | exact rd_0 ((one_t (d := 3) n33 n40).trans (tst_0 hn82)) hp82 | exact rd_0 ((one_t (d := 3) n33 n40).trans (tst_1 hn82 hn97)) hp97 | exact rd_0 ((one_t (d := 3) n33 n40).trans ((tst_2 hn82 hn97).trans (thn_n e106))) hp106 | exact rd_1 ((one_t (d := 3) n33 n40).trans ((tst_2 hn82 hn97).trans (thn_s e106))) hp122 (((((((CdP.nil hc).keep hf8 (fun q => by omega) (fun q => by omega) (fun q => by omega)).keep hf48 (fun q => by omega) (fun q => by omega) (fun q => by omega)).keep hf82 (fun q => by omega) (fun q => by omega) (fun q => by omega)).keep hf97 (fun q => by omega) (fun q => by omega) (fun q => by omega)).keep hf106 (fun q => by omega) (fun q => by omega) (fun q => by omega)).put hP122)⟩
    exact W.zret (v := 0) hx hb hr rfl (fun t_ ht_ hW_ => ⟨⟨0, S_54, rfl, hpost, by rw [ht_]; exact hP, va_K.moved hW_.alike hK, hD⟩, hS.F ht_⟩) hS.2.2 (fk_get fk_cX9_readOne_0 21 rfl)
  obtain ⟨L18, e18, hp18, hC18⟩ := rd_y hK18 c_57
  obtain ⟨g1, g2, g3⟩ := hTx.one 3 (pz + 1) (by omega)
  have g4 := g3 L18 e18
  have hc18 := hC18.1
  refine lv_aload_n hx hb (fk_get fk_cX9_readOne_0 13 rfl) rfl (lv_at hl 0 rfl) ?_
  refine lv_bipush (v := 18) hx hb (fk_get fk_cX9_readOne_0 14 rfl) (by decide) ?_
  refine lv_iconst (v := 0) hx hb (fk_get fk_cX9_readOne_0 15 rfl) (by decide) ?_
  have hFc := va_self hD hS hA
  refine va_calli (va_runV (As := [.int (18), .int (0)]) (rest := []) ⟨hx, hb, hml, hown, hT⟩ (c_x9_putE l G ad S_54 H.size (c + L18.length) (18) (0) (by first | assumption | omega) (by first | assumption | omega) (hX_55)) (tV 2 hT m3_68 m3_70 mp_9 m1_12 m3_71 rfl rfl (by decide +kernel) ⟨Nat.le_of_ble_eq_true rfl, Nat.le_of_ble_eq_true rfl⟩) ⟨PcW_blind, va_recv hK hP (ci := 11) (q0 := 57) rfl (ix_at (lt71 (by omega)) (cX_text G ad S_54)), PcW_of hP hK hD _⟩ rfl rfl hl.1 rfl (lv_room (Nat.le_of_ble_eq_true rfl)) (fk_get fk_cX9_readOne_0 16 rfl) ⟨Nat.zero_le _, Nat.zero_le _⟩) hS (fun q _ h => hFc q h) hFc (fun r_58 S_60 t_ H locs ht_ hvm_ hw_59 hB_ hz_ hk_ hS => ?_)
  obtain ⟨hP, -, hD1_⟩ := hB_
  rw [ht_] at hP
  have hD : va_D A (wX G ad S_60) := hD1_.weaken (fun k q _ h => hFc q.1 h)
  try dsimp only at hw_59
  obtain ⟨hX_61, hF_62_, hw_59⟩ := hw_59
  have hF_62 : Fr (fun j k => (j = 57 ∧ (k = 2 ∨ k = 7 ∨ k = 8)) ∨ ((j = 59 ∨ j = 60) ∧ k = 99)) S S_60 := Fr.trans hF_56 (Fr.mono hF_62_ (fun j k h => by omega))
  obtain ⟨e_, hP28⟩ := hw_59
  subst e_
  have hp28 := (Fr.F hF_62_ (j := 57) (k := 2) (lt71 (by omega)) (fun q => by omega)).trans hp18
  refine lv_if_eq (tgt := 38) hx hb (fk_get fk_cX9_readOne_0 17 rfl) (by decide) (fun c_63 => absurd c_63 ((by decide))) (fun _ => ?_)
  refine lv_iconst (v := 1) hx hb (fk_get fk_cX9_readOne_0 18 rfl) (by decide) ?_
  refine lv_goto (tgt := 39) hx hb (fk_get fk_cX9_readOne_0 19 rfl) (by decide) ?_
  subst hQ
  have hpost : XI S_60 ∧ Fr (fun j k => (j = 57 ∧ (k = 2 ∨ k = 7 ∨ k = 8)) ∨ ((j = 59 ∨ j = 60) ∧ k = 99)) S S_60 ∧ RdP (oneP cdA τ 4 pz) c (1 : Int32) S S_60 := by
    exact ⟨hX_61, hF_62, by first | exact rd_1 ((one_33 (d := 3) h33).trans (thn_s e18)) hp28 ((hC18.base hf8 (fun q => by omega) (fun q => by omega)).put hP28) | exact rd_0 ((one_33 (d := 3) h33).trans (thn_n e18)) hp18 | exact rd_1 ((one_40 (d := 3) n33 h40).trans ((thn_s e58).trans (if_pos h41))) hp67 (((hC58.base hf48 (fun q => by omega) (fun q => by omega)).base hf8 (fun q => by omega) (fun q => by omega)).keep hf67 (fun q => by omega) (fun q => by omega) (fun q => by omega)) | exact rd_0 ((one_40 (d := 3) n33 h40).trans ((thn_s e58).trans (if_neg n41))) hp67 | exact rd_0 ((one_40 (d := 3) n33 h40).trans (thn_n e58)) hp58 | exact rd_0 ((one_t (d := 3) n33 n40).trans (tst_0 hn82)) hp82 | exact rd_0 ((one_t (d := 3) n33 n40).trans (tst_1 hn82 hn97)) hp97 | exact rd_0 ((one_t (d := 3) n33 n40).trans ((tst_2 hn82 hn97).trans (thn_n e106))) hp106 | exact rd_1 ((one_t (d := 3) n33 n40).trans ((tst_2 hn82 hn97).trans (thn_s e106))) hp122 (((((((CdP.nil hc).keep hf8 (fun q => by omega) (fun q => by omega) (fun q => by omega)).keep hf48 (fun q => by omega) (fun q => by omega) (fun q => by omega)).keep hf82 (fun q => by omega) (fun q => by omega) (fun q => by omega)).keep hf97 (fun q => by omega) (fun q => by omega) (fun q => by omega)).keep hf106 (fun q => by omega) (fun q => by omega) (fun q => by omega)).put hP122)⟩
  exact W.zret (v := 1) hx hb hr rfl (fun t_ ht_ hW_ => ⟨⟨1, S_60, rfl, hpost, by rw [ht_]; exact hP, va_K.moved hW_.alike hK, hD⟩, hS.F ht_⟩) hS.2.2 (fk_get fk_cX9_readOne_0 21 rfl)
set_option maxHeartbeats 800000 in
set_option maxRecDepth 100000 in
theorem c_x9_all0E (l : Launch) (G : GG) (ad : Nat → Nat) (S : FS) (sz : Nat) (z pz c : Nat) (τ : Nat → Int32) (hTx : TXz S z τ) (hp : fF S 57 2 = nI pz) (hpz : pz ≤ z) (hc : fF S 57 7 = nI c) (hcp : c ≤ pz) (hX : XI S) : Met l yX9_readAll (Cond.code yX9_readAll cX9_readAll 3 (some .boolean) :: TBL) ({ frames := 20, cells := 0, slots := 0, locals := 541 } : Room) (PcE G (wX G ad S) sz [.ref (ad 57), .int (0)]) (va_Qi (fun (r : Int32) (S' : FS) => XI S' ∧ Fr (fun j k => (j = 57 ∧ (k = 2 ∨ k = 7 ∨ k = 8)) ∨ ((j = 59 ∨ j = 60) ∧ k = 99)) S S' ∧ RdP (allP cdA (oneP cdA τ 4) τ pz) c r S S') (fun S' t => BW G (va_A (wX G ad S) sz) (wX G ad S') t) (va_A (wX G ad S) sz)) 0 0 (va_A (wX G ad S) sz) := by
  refine Met.ofW (cc := cX9_readAll) (maxL := 3) (ret := (some .boolean)) (by decide) rfl ?_
  intro p e s m args below meth c₀ s₁ B hml hv
  obtain ⟨rfl, hsz, hP, hK, hD0, hE⟩ := hv
  have hx := B.exec
  have hb := B.bytes
  have hr := B.returns
  have hT : ∀ w ∈ TBL, w.before ([.ref (ad 57), .int (0)] : List Value).toArray s = true := fun w h => atoms_spec (ws := Cond.code yX9_readAll cX9_readAll 3 (some .boolean) :: TBL) B.pre w (List.mem_cons_of_mem _ h)
  have hown : s.vm.findClass "LittleMore$Text" = some m.cls := findClass_of_methodNamed B.named
  have hlocks := B.notSynchronized
  subst hsz
  have hD := hD0.self (sz := s.heap.size)
  generalize hAe : va_A (wX G ad S) s.heap.size = A at hD hE ⊢
  have hA : ∀ q : Nat, s.heap.size ≤ q → A q := fun q h => by rw [← hAe]; exact Or.inr h
  have hS : va_S A s.heap s.heap [] := va_S.rf
  have hP : va_P G.1 vwCl (wX G ad S) s.heap := hP
  have hl := lv_entry ([.ref (ad 57), .int (0)]) (n := 3) (Nat.le_of_ble_eq_true rfl)
  rw [lg_entry_eq]
  generalize (lg_sl ([.ref (ad 57), .int (0)]) ++ List.replicate (3 - (lg_sl ([.ref (ad 57), .int (0)])).length) Slot.unset).toArray = ls at hl ⊢
  have hl : lv_has ls 3 [(0, .ref (ad 57)), (1, .int (0))] := hl
  refine W_abs (fun Q hQ => ?_)
  generalize ([.ref (ad 57), .int (0)] : List Value).toArray = args at hT hQ ⊢
  have hz1 := hTx.2.1
  refine lv_aload_n hx hb (fk_get fk_cX9_readAll_0 0 rfl) rfl (lv_at hl 0 rfl) ?_
  refine lv_iload_n hx hb (fk_get fk_cX9_readAll_0 1 rfl) rfl (lv_at hl 1 rfl) ?_
  have hFc := va_self hD hS hA
  refine va_calli (va_runV (As := [.int (0)]) (rest := []) ⟨hx, hb, hml, hown, hT⟩ (c_x9_one0E l G ad S s.heap.size (z) (pz) (c) (τ) (by first | assumption | omega) (by first | assumption | omega) (by first | assumption | omega) (by first | assumption | omega) (by first | assumption | omega) (hX)) (tV 1 hT m3_64 m3_66 mp_8 m1_12 m3_67 rfl rfl (by decide +kernel) ⟨Nat.le_of_ble_eq_true rfl, Nat.le_of_ble_eq_true rfl⟩) ⟨PcE_blind, va_recv hK hP (ci := 11) (q0 := 57) rfl (ix_at (lt71 (by omega)) (cX_text G ad S)), PcE_of hP hK hD hE hS (fun q h => hFc q h) _⟩ rfl rfl hl.1 rfl (lv_room (Nat.le_of_ble_eq_true rfl)) (fk_get fk_cX9_readAll_0 2 rfl) ⟨Nat.zero_le _, Nat.zero_le _⟩) hS (fun q _ h => hFc q h) hFc (fun r_1 S_3 t_ H locs ht_ hvm_ hw_2 hB_ hz_ hk_ hS => ?_)
  obtain ⟨hP, -, hD1_⟩ := hB_
  rw [ht_] at hP
  have hD : va_D A (wX G ad S_3) := hD1_.weaken (fun k q _ h => hFc q.1 h)
  try dsimp only at hw_2
  obtain ⟨hX_4, hF_5_, hw_2⟩ := hw_2
  have hF_5 : Fr (fun j k => (j = 57 ∧ (k = 2 ∨ k = 7 ∨ k = 8)) ∨ ((j = 59 ∨ j = 60) ∧ k = 99)) S S_3 := Fr.trans (Fr.rf : Fr (fun j k => (j = 57 ∧ (k = 2 ∨ k = 7 ∨ k = 8)) ∨ ((j = 59 ∨ j = 60) ∧ k = 99)) S S) (Fr.mono hF_5_ (fun j k h => by omega))
  have hK2 := hw_2
  have hf2 := hF_5_
  have hT2 := hTx.fr hF_5_ (fun q => by omega) (fun q => by omega)
  refine lv_if_ne (tgt := 10) hx hb (fk_get fk_cX9_readAll_0 3 rfl) (by decide) (fun c_6 => ?_) (fun c_6 => ?_)
  · obtain ⟨L2, e2, hp2, hC2⟩ := rd_y hK2 c_6
    obtain ⟨g1, g2, g3⟩ := hTx.one 4 pz hpz
    have g4 := g3 L2 e2
    refine lv_iconst (v := 0) hx hb (fk_get fk_cX9_readAll_0 6 rfl) (by decide) ?_
    refine lv_istore_n (lv' := [(2, .int (0)), (0, .ref (ad 57)), (1, .int (0))]) hx hb (fk_get fk_cX9_readAll_0 7 rfl) rfl hl (by decide) rfl (fun ls hl => ?_)
    have lp_7 : ∀ (fu : Nat) (k q : Nat) (L : Cds) (SL12 : FS) (H_9 : Heap) (locs_10 : List Loc) (ls : Array Slot),  (XI SL12) → (Fr (fun j k => (j = 57 ∧ (k = 2 ∨ k = 7 ∨ k = 8)) ∨ ((j = 59 ∨ j = 60) ∧ k = 99)) S SL12) → (k ≤ 100) → (100 < k + fu) → (TXz SL12 z τ) → (fF SL12 57 2 = nI q) → (q ≤ z) → (pz + L.length + 1 ≤ q) → (CdP S SL12 c L) → (seqP (oneP cdA τ 4) cdA.2.2.1 38 τ (100 - k) L q = allP cdA (oneP cdA τ 4) τ pz) → va_P G.1 vwCl (wX G ad SL12) H_9 → va_D A (wX G ad SL12) → va_S A s.heap H_9 locs_10 → lv_has ls 3 [(2, .int ((nI k))), (0, .ref (ad 57)), (1, .int (0))] → W p l e ({ frames := 20, cells := 0, slots := 0, locals := 541 } : Room) s m args below meth c₀ H_9 locs_10 0 0 Q (F0 m 12 ls []) := by
      intro fu
      induction fu with
      | zero =>
        intro k q L SL12 H_9 locs_10 ls hXl12 hFl12 hk hf hTl hql hqz hLq hCl hQ2 hP hD hS hl
        exact absurd hf (by omega)
      | succ fu ih =>
        intro k q L SL12 H_9 locs_10 ls hXl12 hFl12 hk hf hTl hql hqz hLq hCl hQ2 hP hD hS hl
        refine lv_iload_n hx hb (fk_get fk_cX9_readAll_0 8 rfl) rfl (lv_at hl 0 rfl) ?_
        refine lv_bipush (v := 100) hx hb (fk_get fk_cX9_readAll_0 9 rfl) (by decide) ?_
        refine lv_icmp_ge (tgt := 53) hx hb (fk_get fk_cX9_readAll_0 10 rfl) (by decide) (fun c_11 => ?_) (fun c_11 => ?_)
        · have q_c_11 : 100 ≤ k := ci_le (a := 100) (b := k) (by omega) (by omega) c_11
          refine lv_iconst (v := 1) hx hb (fk_get fk_cX9_readAll_0 28 rfl) (by decide) ?_
          subst hQ
          have hpost : XI SL12 ∧ Fr (fun j k => (j = 57 ∧ (k = 2 ∨ k = 7 ∨ k = 8)) ∨ ((j = 59 ∨ j = 60) ∧ k = 99)) S SL12 ∧ RdP (allP cdA (oneP cdA τ 4) τ pz) c (1 : Int32) S SL12 := by
            exact ⟨hXl12, hFl12, by first | exact rd_0 (thn_n e2) hp2 | exact rd_1 (hQ2.symm.trans (seq_no n21 _)) hp21 (hCl.keep hf21 (fun q => by omega) (fun q => by omega) (fun q => by omega)) | exact rd_1 (hQ2.symm.trans (by rw [show 100 - k = 0 by omega]; rfl)) hql hCl | exact rd_0 (hQ2.symm.trans ((seq_s (by omega) h21).trans (thn_n e29))) hp29⟩
          exact W.zret (v := 1) hx hb hr rfl (fun t_ ht_ hW_ => ⟨⟨1, SL12, rfl, hpost, by rw [ht_]; exact hP, va_K.moved hW_.alike hK, hD⟩, hS.F ht_⟩) hS.2.2 (fk_get fk_cX9_readAll_0 29 rfl)
        have q_c_11 : k < 100 := ci_nle (a := 100) (b := k) (by omega) (by omega) c_11
        refine lv_aload_n hx hb (fk_get fk_cX9_readAll_0 11 rfl) rfl (lv_at hl 1 rfl) ?_
        refine lv_bipush (v := 38) hx hb (fk_get fk_cX9_readAll_0 12 rfl) (by decide) ?_
        have hFc := va_self hD hS hA
        refine va_calli (va_runV (As := [.int (38)]) (rest := []) ⟨hx, hb, hml, hown, hT⟩ (c_x9_takesE l G ad SL12 H_9.size (z) (q) (38) (τ) (by first | assumption | omega) (by first | assumption | omega) (by first | assumption | omega) (hXl12)) (tV 1 hT m2_213 m2_215 mp_0 m1_12 m2_216 rfl rfl (by decide +kernel) ⟨Nat.le_of_ble_eq_true rfl, Nat.le_of_ble_eq_true rfl⟩) ⟨PcW_blind, va_recv hK hP (ci := 11) (q0 := 57) rfl (ix_at (lt71 (by omega)) (cX_text G ad SL12)), PcW_of hP hK hD _⟩ rfl rfl hl.1 rfl (lv_room (Nat.le_of_ble_eq_true rfl)) (fk_get fk_cX9_readAll_0 13 rfl) ⟨Nat.zero_le _, Nat.zero_le _⟩) hS (fun q _ h => hFc q h) hFc (fun r_12 S_14 t_ H locs ht_ hvm_ hw_13 hB_ hz_ hk_ hS => ?_)
        obtain ⟨hP, -, hD1_⟩ := hB_
        rw [ht_] at hP
        have hD : va_D A (wX G ad S_14) := hD1_.weaken (fun k q _ h => hFc q.1 h)
        try dsimp only at hw_13
        obtain ⟨hX_15, hF_16_, hw_13⟩ := hw_13
        have hF_16 : Fr (fun j k => (j = 57 ∧ (k = 2 ∨ k = 7 ∨ k = 8)) ∨ ((j = 59 ∨ j = 60) ∧ k = 99)) S S_14 := Fr.trans hFl12 (Fr.mono hF_16_ (fun j k h => by omega))
        have hK21 := hw_13
        have hf21 := hF_16_
        have hT21 := hTl.fr hF_16_ (fun q => by omega) (fun q => by omega)
        have hc21 := (Fr.F hF_16_ (j := 57) (k := 7) (lt71 (by omega)) (fun q => by omega)).trans hCl.1
        refine lv_if_eq (tgt := 53) hx hb (fk_get fk_cX9_readAll_0 14 rfl) (by decide) (fun c_17 => ?_) (fun c_17 => ?_)
        · obtain ⟨n21, hp21⟩ := tk_n hK21 c_17
          refine lv_iconst (v := 1) hx hb (fk_get fk_cX9_readAll_0 28 rfl) (by decide) ?_
          subst hQ
          have hpost : XI S_14 ∧ Fr (fun j k => (j = 57 ∧ (k = 2 ∨ k = 7 ∨ k = 8)) ∨ ((j = 59 ∨ j = 60) ∧ k = 99)) S S_14 ∧ RdP (allP cdA (oneP cdA τ 4) τ pz) c (1 : Int32) S S_14 := by
            exact ⟨hX_15, hF_16, by first | exact rd_0 (thn_n e2) hp2 | exact rd_1 (hQ2.symm.trans (seq_no n21 _)) hp21 (hCl.keep hf21 (fun q => by omega) (fun q => by omega) (fun q => by omega)) | exact rd_1 (hQ2.symm.trans (by rw [show 100 - k = 0 by omega]; rfl)) hql hCl | exact rd_0 (hQ2.symm.trans ((seq_s (by omega) h21).trans (thn_n e29))) hp29⟩
          exact W.zret (v := 1) hx hb hr rfl (fun t_ ht_ hW_ => ⟨⟨1, S_14, rfl, hpost, by rw [ht_]; exact hP, va_K.moved hW_.alike hK, hD⟩, hS.F ht_⟩) hS.2.2 (fk_get fk_cX9_readAll_0 29 rfl)
        obtain ⟨h21, hp21⟩ := tk_y hK21 c_17
        have hz21 := hTx.lt h21 (by decide)
        refine lv_aload_n hx hb (fk_get fk_cX9_readAll_0 15 rfl) rfl (lv_at hl 1 rfl) ?_
        refine lv_iload_n hx hb (fk_get fk_cX9_readAll_0 16 rfl) rfl (lv_at hl 2 rfl) ?_
        have hFc := va_self hD hS hA
        refine va_calli (va_runV (As := [.int (0)]) (rest := []) ⟨hx, hb, hml, hown, hT⟩ (c_x9_one0E l G ad S_14 H.size (z) (q + 1) (c + L.length) (τ) (by first | assumption | omega) (by first | assumption | omega) (by first | assumption | omega) (by first | assumption | omega) (by first | assumption | omega) (hX_15)) (tV 1 hT m3_64 m3_66 mp_8 m1_12 m3_67 rfl rfl (by decide +kernel) ⟨Nat.le_of_ble_eq_true rfl, Nat.le_of_ble_eq_true rfl⟩) ⟨PcE_blind, va_recv hK hP (ci := 11) (q0 := 57) rfl (ix_at (lt71 (by omega)) (cX_text G ad S_14)), PcE_of hP hK hD hE hS (fun q h => hFc q h) _⟩ rfl rfl hl.1 rfl (lv_room (Nat.le_of_ble_eq_true rfl)) (fk_get fk_cX9_readAll_0 17 rfl) ⟨Nat.zero_le _, Nat.zero_le _⟩) hS (fun q _ h => hFc q h) hFc (fun r_18 S_20 t_ H locs ht_ hvm_ hw_19 hB_ hz_ hk_ hS => ?_)
        obtain ⟨hP, -, hD1_⟩ := hB_
        rw [ht_] at hP
        have hD : va_D A (wX G ad S_20) := hD1_.weaken (fun k q _ h => hFc q.1 h)
        try dsimp only at hw_19
        obtain ⟨hX_21, hF_22_, hw_19⟩ := hw_19
        have hF_22 : Fr (fun j k => (j = 57 ∧ (k = 2 ∨ k = 7 ∨ k = 8)) ∨ ((j = 59 ∨ j = 60) ∧ k = 99)) S S_20 := Fr.trans hF_16 (Fr.mono hF_22_ (fun j k h => by omega))
        have hK29 := hw_19
        have hT29 := hT21.fr hF_22_ (fun q => by omega) (fun q => by omega)
        refine lv_if_eq (tgt := 45) hx hb (fk_get fk_cX9_readAll_0 18 rfl) (by decide) (fun c_23 => ?_) (fun c_23 => ?_)
        · obtain ⟨e29, hp29⟩ := rd_n hK29 c_23
          refine lv_iconst (v := 0) hx hb (fk_get fk_cX9_readAll_0 24 rfl) (by decide) ?_
          subst hQ
          have hpost : XI S_20 ∧ Fr (fun j k => (j = 57 ∧ (k = 2 ∨ k = 7 ∨ k = 8)) ∨ ((j = 59 ∨ j = 60) ∧ k = 99)) S S_20 ∧ RdP (allP cdA (oneP cdA τ 4) τ pz) c (0 : Int32) S S_20 := by
            exact ⟨hX_21, hF_22, by first | exact rd_0 (thn_n e2) hp2 | exact rd_1 (hQ2.symm.trans (seq_no n21 _)) hp21 (hCl.keep hf21 (fun q => by omega) (fun q => by omega) (fun q => by omega)) | exact rd_1 (hQ2.symm.trans (by rw [show 100 - k = 0 by omega]; rfl)) hql hCl | exact rd_0 (hQ2.symm.trans ((seq_s (by omega) h21).trans (thn_n e29))) hp29⟩
          exact W.zret (v := 0) hx hb hr rfl (fun t_ ht_ hW_ => ⟨⟨0, S_20, rfl, hpost, by rw [ht_]; exact hP, va_K.moved hW_.alike hK, hD⟩, hS.F ht_⟩) hS.2.2 (fk_get fk_cX9_readAll_0 25 rfl)
        obtain ⟨M, e29, hp29, hC29⟩ := rd_y hK29 c_23
        obtain ⟨g5, g6, g7⟩ := hTx.one 4 (q + 1) (by omega)
        have g8 := g7 M e29
        have hc29 := hC29.1
        refine lv_aload_n hx hb (fk_get fk_cX9_readAll_0 19 rfl) rfl (lv_at hl 1 rfl) ?_
        refine lv_bipush (v := 19) hx hb (fk_get fk_cX9_readAll_0 20 rfl) (by decide) ?_
        refine lv_iconst (v := 0) hx hb (fk_get fk_cX9_readAll_0 21 rfl) (by decide) ?_
        have hFc := va_self hD hS hA
        refine va_calli (va_runV (As := [.int (19), .int (0)]) (rest := []) ⟨hx, hb, hml, hown, hT⟩ (c_x9_putE l G ad S_20 H.size (c + L.length + M.length) (19) (0) (by first | assumption | omega) (by first | assumption | omega) (hX_21)) (tV 2 hT m3_68 m3_70 mp_9 m1_12 m3_71 rfl rfl (by decide +kernel) ⟨Nat.le_of_ble_eq_true rfl, Nat.le_of_ble_eq_true rfl⟩) ⟨PcW_blind, va_recv hK hP (ci := 11) (q0 := 57) rfl (ix_at (lt71 (by omega)) (cX_text G ad S_20)), PcW_of hP hK hD _⟩ rfl rfl hl.1 rfl (lv_room (Nat.le_of_ble_eq_true rfl)) (fk_get fk_cX9_readAll_0 22 rfl) ⟨Nat.zero_le _, Nat.zero_le _⟩) hS (fun q _ h => hFc q h) hFc (fun r_24 S_26 t_ H locs ht_ hvm_ hw_25 hB_ hz_ hk_ hS => ?_)
        obtain ⟨hP, -, hD1_⟩ := hB_
        rw [ht_] at hP
        have hD : va_D A (wX G ad S_26) := hD1_.weaken (fun k q _ h => hFc q.1 h)
        try dsimp only at hw_25
        obtain ⟨hX_27, hF_28_, hw_25⟩ := hw_25
        have hF_28 : Fr (fun j k => (j = 57 ∧ (k = 2 ∨ k = 7 ∨ k = 8)) ∨ ((j = 59 ∨ j = 60) ∧ k = 99)) S S_26 := Fr.trans hF_22 (Fr.mono hF_28_ (fun j k h => by omega))
        obtain ⟨e_, hP39⟩ := hw_25
        subst e_
        have hp39 := (Fr.F hF_28_ (j := 57) (k := 2) (lt71 (by omega)) (fun q => by omega)).trans hp29
        have hT39 := hT29.fr hF_28_ (fun q => by omega) (fun q => by omega)
        refine lv_if_ne (tgt := 47) hx hb (fk_get fk_cX9_readAll_0 23 rfl) (by decide) (fun _ => ?_) (fun c_29 => absurd c_29 ((by decide)))
        refine lv_iinc (v := (nI (k + 1))) (lv' := [(2, .int ((nI (k + 1)))), (0, .ref (ad 57)), (1, .int (0))]) hx hb (fk_get fk_cX9_readAll_0 26 rfl) hl (k := 0) rfl ((nI_1 k)) (by decide) rfl (fun ls hl => ?_)
        refine lv_goto (tgt := 12) hx hb (fk_get fk_cX9_readAll_0 27 rfl) (by decide) ?_
        exact ih (k + 1) (((oneP cdA τ 4) (q + 1)).2) ((cdA.2.2.1 L M)) (S_26) _ _ ls (hX_27) (hF_28) (by omega) (by omega) (hT39) (hp39) (g6) ((by rw [show (cdA.2.2.1 L M).length = L.length + M.length + 1 from op_len L M _]; omega)) (((hCl.keep hf21 (fun q => by omega) (fun q => by omega) (fun q => by omega)).app hC29).put (by rw [List.length_append, ← Nat.add_assoc]; exact hP39)) (((thn_s e29).symm.trans ((seq_s (by omega) h21).symm.trans hQ2))) hP hD hS (lv_sub hl [0, 1, 2] rfl)
    exact lp_7 (101) (0) (((oneP cdA τ 4) pz).2) (L2) (S_3) _ _ ls (hX_4) (hF_5) (by omega) (by omega) (hT2) (hp2) (g2) (g4) (hC2) ((thn_s e2).symm) hP hD hS (lv_sub hl [0, 1, 2] rfl)
  obtain ⟨e2, hp2⟩ := rd_n hK2 (by assumption)
  refine lv_iconst (v := 0) hx hb (fk_get fk_cX9_readAll_0 4 rfl) (by decide) ?_
  subst hQ
  have hpost : XI S_3 ∧ Fr (fun j k => (j = 57 ∧ (k = 2 ∨ k = 7 ∨ k = 8)) ∨ ((j = 59 ∨ j = 60) ∧ k = 99)) S S_3 ∧ RdP (allP cdA (oneP cdA τ 4) τ pz) c (0 : Int32) S S_3 := by
    exact ⟨hX_4, hF_5, by first | exact rd_0 (thn_n e2) hp2 | exact rd_1 (hQ2.symm.trans (seq_no n21 _)) hp21 (hCl.keep hf21 (fun q => by omega) (fun q => by omega) (fun q => by omega)) | exact rd_1 (hQ2.symm.trans (by rw [show 100 - k = 0 by omega]; rfl)) hql hCl | exact rd_0 (hQ2.symm.trans ((seq_s (by omega) h21).trans (thn_n e29))) hp29⟩
  exact W.zret (v := 0) hx hb hr rfl (fun t_ ht_ hW_ => ⟨⟨0, S_3, rfl, hpost, by rw [ht_]; exact hP, va_K.moved hW_.alike hK, hD⟩, hS.F ht_⟩) hS.2.2 (fk_get fk_cX9_readAll_0 5 rfl)
set_option maxHeartbeats 800000 in
set_option maxRecDepth 100000 in
theorem c_x9_any0E (l : Launch) (G : GG) (ad : Nat → Nat) (S : FS) (sz : Nat) (z pz c : Nat) (τ : Nat → Int32) (hTx : TXz S z τ) (hp : fF S 57 2 = nI pz) (hpz : pz ≤ z) (hc : fF S 57 7 = nI c) (hcp : c ≤ pz) (hX : XI S) : Met l yX9_readAny (Cond.code yX9_readAny cX9_readAny 3 (some .boolean) :: TBL) ({ frames := 21, cells := 0, slots := 0, locals := 567 } : Room) (PcE G (wX G ad S) sz [.ref (ad 57), .int (0)]) (va_Qi (fun (r : Int32) (S' : FS) => XI S' ∧ Fr (fun j k => (j = 57 ∧ (k = 2 ∨ k = 7 ∨ k = 8)) ∨ ((j = 59 ∨ j = 60) ∧ k = 99)) S S' ∧ RdP (anyP cdA (oneP cdA τ 4) τ pz) c r S S') (fun S' t => BW G (va_A (wX G ad S) sz) (wX G ad S') t) (va_A (wX G ad S) sz)) 0 0 (va_A (wX G ad S) sz) := by
  refine Met.ofW (cc := cX9_readAny) (maxL := 3) (ret := (some .boolean)) (by decide) rfl ?_
  intro p e s m args below meth c₀ s₁ B hml hv
  obtain ⟨rfl, hsz, hP, hK, hD0, hE⟩ := hv
  have hx := B.exec
  have hb := B.bytes
  have hr := B.returns
  have hT : ∀ w ∈ TBL, w.before ([.ref (ad 57), .int (0)] : List Value).toArray s = true := fun w h => atoms_spec (ws := Cond.code yX9_readAny cX9_readAny 3 (some .boolean) :: TBL) B.pre w (List.mem_cons_of_mem _ h)
  have hown : s.vm.findClass "LittleMore$Text" = some m.cls := findClass_of_methodNamed B.named
  have hlocks := B.notSynchronized
  subst hsz
  have hD := hD0.self (sz := s.heap.size)
  generalize hAe : va_A (wX G ad S) s.heap.size = A at hD hE ⊢
  have hA : ∀ q : Nat, s.heap.size ≤ q → A q := fun q h => by rw [← hAe]; exact Or.inr h
  have hS : va_S A s.heap s.heap [] := va_S.rf
  have hP : va_P G.1 vwCl (wX G ad S) s.heap := hP
  have hl := lv_entry ([.ref (ad 57), .int (0)]) (n := 3) (Nat.le_of_ble_eq_true rfl)
  rw [lg_entry_eq]
  generalize (lg_sl ([.ref (ad 57), .int (0)]) ++ List.replicate (3 - (lg_sl ([.ref (ad 57), .int (0)])).length) Slot.unset).toArray = ls at hl ⊢
  have hl : lv_has ls 3 [(0, .ref (ad 57)), (1, .int (0))] := hl
  refine W_abs (fun Q hQ => ?_)
  generalize ([.ref (ad 57), .int (0)] : List Value).toArray = args at hT hQ ⊢
  have hz1 := hTx.2.1
  refine lv_aload_n hx hb (fk_get fk_cX9_readAny_0 0 rfl) rfl (lv_at hl 0 rfl) ?_
  refine lv_iload_n hx hb (fk_get fk_cX9_readAny_0 1 rfl) rfl (lv_at hl 1 rfl) ?_
  have hFc := va_self hD hS hA
  refine va_calli (va_runV (As := [.int (0)]) (rest := []) ⟨hx, hb, hml, hown, hT⟩ (c_x9_all0E l G ad S s.heap.size (z) (pz) (c) (τ) (by first | assumption | omega) (by first | assumption | omega) (by first | assumption | omega) (by first | assumption | omega) (by first | assumption | omega) (hX)) (tV 1 hT m3_60 m3_62 mp_7 m1_12 m3_63 rfl rfl (by decide +kernel) ⟨Nat.le_of_ble_eq_true rfl, Nat.le_of_ble_eq_true rfl⟩) ⟨PcE_blind, va_recv hK hP (ci := 11) (q0 := 57) rfl (ix_at (lt71 (by omega)) (cX_text G ad S)), PcE_of hP hK hD hE hS (fun q h => hFc q h) _⟩ rfl rfl hl.1 rfl (lv_room (Nat.le_of_ble_eq_true rfl)) (fk_get fk_cX9_readAny_0 2 rfl) ⟨Nat.zero_le _, Nat.zero_le _⟩) hS (fun q _ h => hFc q h) hFc (fun r_1 S_3 t_ H locs ht_ hvm_ hw_2 hB_ hz_ hk_ hS => ?_)
  obtain ⟨hP, -, hD1_⟩ := hB_
  rw [ht_] at hP
  have hD : va_D A (wX G ad S_3) := hD1_.weaken (fun k q _ h => hFc q.1 h)
  try dsimp only at hw_2
  obtain ⟨hX_4, hF_5_, hw_2⟩ := hw_2
  have hF_5 : Fr (fun j k => (j = 57 ∧ (k = 2 ∨ k = 7 ∨ k = 8)) ∨ ((j = 59 ∨ j = 60) ∧ k = 99)) S S_3 := Fr.trans (Fr.rf : Fr (fun j k => (j = 57 ∧ (k = 2 ∨ k = 7 ∨ k = 8)) ∨ ((j = 59 ∨ j = 60) ∧ k = 99)) S S) (Fr.mono hF_5_ (fun j k h => by omega))
  have hK2 := hw_2
  have hf2 := hF_5_
  have hT2 := hTx.fr hF_5_ (fun q => by omega) (fun q => by omega)
  refine lv_if_ne (tgt := 10) hx hb (fk_get fk_cX9_readAny_0 3 rfl) (by decide) (fun c_6 => ?_) (fun c_6 => ?_)
  · obtain ⟨L2, e2, hp2, hC2⟩ := rd_y hK2 c_6
    obtain ⟨g1, g2, g3⟩ := hTx.all 4 pz hpz
    have g4 := g3 L2 e2
    refine lv_iconst (v := 0) hx hb (fk_get fk_cX9_readAny_0 6 rfl) (by decide) ?_
    refine lv_istore_n (lv' := [(2, .int (0)), (0, .ref (ad 57)), (1, .int (0))]) hx hb (fk_get fk_cX9_readAny_0 7 rfl) rfl hl (by decide) rfl (fun ls hl => ?_)
    have lp_7 : ∀ (fu : Nat) (k q : Nat) (L : Cds) (SL12 : FS) (H_9 : Heap) (locs_10 : List Loc) (ls : Array Slot),  (XI SL12) → (Fr (fun j k => (j = 57 ∧ (k = 2 ∨ k = 7 ∨ k = 8)) ∨ ((j = 59 ∨ j = 60) ∧ k = 99)) S SL12) → (k ≤ 100) → (100 < k + fu) → (TXz SL12 z τ) → (fF SL12 57 2 = nI q) → (q ≤ z) → (pz + L.length + 1 ≤ q) → (CdP S SL12 c L) → (seqP (allP cdA (oneP cdA τ 4) τ) cdA.2.2.2 124 τ (100 - k) L q = anyP cdA (oneP cdA τ 4) τ pz) → va_P G.1 vwCl (wX G ad SL12) H_9 → va_D A (wX G ad SL12) → va_S A s.heap H_9 locs_10 → lv_has ls 3 [(2, .int ((nI k))), (0, .ref (ad 57)), (1, .int (0))] → W p l e ({ frames := 21, cells := 0, slots := 0, locals := 567 } : Room) s m args below meth c₀ H_9 locs_10 0 0 Q (F0 m 12 ls []) := by
      intro fu
      induction fu with
      | zero =>
        intro k q L SL12 H_9 locs_10 ls hXl12 hFl12 hk hf hTl hql hqz hLq hCl hQ2 hP hD hS hl
        exact absurd hf (by omega)
      | succ fu ih =>
        intro k q L SL12 H_9 locs_10 ls hXl12 hFl12 hk hf hTl hql hqz hLq hCl hQ2 hP hD hS hl
        refine lv_iload_n hx hb (fk_get fk_cX9_readAny_0 8 rfl) rfl (lv_at hl 0 rfl) ?_
        refine lv_bipush (v := 100) hx hb (fk_get fk_cX9_readAny_0 9 rfl) (by decide) ?_
        refine lv_icmp_ge (tgt := 53) hx hb (fk_get fk_cX9_readAny_0 10 rfl) (by decide) (fun c_11 => ?_) (fun c_11 => ?_)
        · have q_c_11 : 100 ≤ k := ci_le (a := 100) (b := k) (by omega) (by omega) c_11
          refine lv_iconst (v := 1) hx hb (fk_get fk_cX9_readAny_0 28 rfl) (by decide) ?_
          subst hQ
          have hpost : XI SL12 ∧ Fr (fun j k => (j = 57 ∧ (k = 2 ∨ k = 7 ∨ k = 8)) ∨ ((j = 59 ∨ j = 60) ∧ k = 99)) S SL12 ∧ RdP (anyP cdA (oneP cdA τ 4) τ pz) c (1 : Int32) S SL12 := by
            exact ⟨hXl12, hFl12, by first | exact rd_0 (thn_n e2) hp2 | exact rd_1 (hQ2.symm.trans (seq_no n21 _)) hp21 (hCl.keep hf21 (fun q => by omega) (fun q => by omega) (fun q => by omega)) | exact rd_1 (hQ2.symm.trans (by rw [show 100 - k = 0 by omega]; rfl)) hql hCl | exact rd_0 (hQ2.symm.trans ((seq_s (by omega) h21).trans (thn_n e29))) hp29⟩
          exact W.zret (v := 1) hx hb hr rfl (fun t_ ht_ hW_ => ⟨⟨1, SL12, rfl, hpost, by rw [ht_]; exact hP, va_K.moved hW_.alike hK, hD⟩, hS.F ht_⟩) hS.2.2 (fk_get fk_cX9_readAny_0 29 rfl)
        have q_c_11 : k < 100 := ci_nle (a := 100) (b := k) (by omega) (by omega) c_11
        refine lv_aload_n hx hb (fk_get fk_cX9_readAny_0 11 rfl) rfl (lv_at hl 1 rfl) ?_
        refine lv_bipush (v := 124) hx hb (fk_get fk_cX9_readAny_0 12 rfl) (by decide) ?_
        have hFc := va_self hD hS hA
        refine va_calli (va_runV (As := [.int (124)]) (rest := []) ⟨hx, hb, hml, hown, hT⟩ (c_x9_takesE l G ad SL12 H_9.size (z) (q) (124) (τ) (by first | assumption | omega) (by first | assumption | omega) (by first | assumption | omega) (hXl12)) (tV 1 hT m2_213 m2_215 mp_0 m1_12 m2_216 rfl rfl (by decide +kernel) ⟨Nat.le_of_ble_eq_true rfl, Nat.le_of_ble_eq_true rfl⟩) ⟨PcW_blind, va_recv hK hP (ci := 11) (q0 := 57) rfl (ix_at (lt71 (by omega)) (cX_text G ad SL12)), PcW_of hP hK hD _⟩ rfl rfl hl.1 rfl (lv_room (Nat.le_of_ble_eq_true rfl)) (fk_get fk_cX9_readAny_0 13 rfl) ⟨Nat.zero_le _, Nat.zero_le _⟩) hS (fun q _ h => hFc q h) hFc (fun r_12 S_14 t_ H locs ht_ hvm_ hw_13 hB_ hz_ hk_ hS => ?_)
        obtain ⟨hP, -, hD1_⟩ := hB_
        rw [ht_] at hP
        have hD : va_D A (wX G ad S_14) := hD1_.weaken (fun k q _ h => hFc q.1 h)
        try dsimp only at hw_13
        obtain ⟨hX_15, hF_16_, hw_13⟩ := hw_13
        have hF_16 : Fr (fun j k => (j = 57 ∧ (k = 2 ∨ k = 7 ∨ k = 8)) ∨ ((j = 59 ∨ j = 60) ∧ k = 99)) S S_14 := Fr.trans hFl12 (Fr.mono hF_16_ (fun j k h => by omega))
        have hK21 := hw_13
        have hf21 := hF_16_
        have hT21 := hTl.fr hF_16_ (fun q => by omega) (fun q => by omega)
        have hc21 := (Fr.F hF_16_ (j := 57) (k := 7) (lt71 (by omega)) (fun q => by omega)).trans hCl.1
        refine lv_if_eq (tgt := 53) hx hb (fk_get fk_cX9_readAny_0 14 rfl) (by decide) (fun c_17 => ?_) (fun c_17 => ?_)
        · obtain ⟨n21, hp21⟩ := tk_n hK21 c_17
          refine lv_iconst (v := 1) hx hb (fk_get fk_cX9_readAny_0 28 rfl) (by decide) ?_
          subst hQ
          have hpost : XI S_14 ∧ Fr (fun j k => (j = 57 ∧ (k = 2 ∨ k = 7 ∨ k = 8)) ∨ ((j = 59 ∨ j = 60) ∧ k = 99)) S S_14 ∧ RdP (anyP cdA (oneP cdA τ 4) τ pz) c (1 : Int32) S S_14 := by
            exact ⟨hX_15, hF_16, by first | exact rd_0 (thn_n e2) hp2 | exact rd_1 (hQ2.symm.trans (seq_no n21 _)) hp21 (hCl.keep hf21 (fun q => by omega) (fun q => by omega) (fun q => by omega)) | exact rd_1 (hQ2.symm.trans (by rw [show 100 - k = 0 by omega]; rfl)) hql hCl | exact rd_0 (hQ2.symm.trans ((seq_s (by omega) h21).trans (thn_n e29))) hp29⟩
          exact W.zret (v := 1) hx hb hr rfl (fun t_ ht_ hW_ => ⟨⟨1, S_14, rfl, hpost, by rw [ht_]; exact hP, va_K.moved hW_.alike hK, hD⟩, hS.F ht_⟩) hS.2.2 (fk_get fk_cX9_readAny_0 29 rfl)
        obtain ⟨h21, hp21⟩ := tk_y hK21 c_17
        have hz21 := hTx.lt h21 (by decide)
        refine lv_aload_n hx hb (fk_get fk_cX9_readAny_0 15 rfl) rfl (lv_at hl 1 rfl) ?_
        refine lv_iload_n hx hb (fk_get fk_cX9_readAny_0 16 rfl) rfl (lv_at hl 2 rfl) ?_
        have hFc := va_self hD hS hA
        refine va_calli (va_runV (As := [.int (0)]) (rest := []) ⟨hx, hb, hml, hown, hT⟩ (c_x9_all0E l G ad S_14 H.size (z) (q + 1) (c + L.length) (τ) (by first | assumption | omega) (by first | assumption | omega) (by first | assumption | omega) (by first | assumption | omega) (by first | assumption | omega) (hX_15)) (tV 1 hT m3_60 m3_62 mp_7 m1_12 m3_63 rfl rfl (by decide +kernel) ⟨Nat.le_of_ble_eq_true rfl, Nat.le_of_ble_eq_true rfl⟩) ⟨PcE_blind, va_recv hK hP (ci := 11) (q0 := 57) rfl (ix_at (lt71 (by omega)) (cX_text G ad S_14)), PcE_of hP hK hD hE hS (fun q h => hFc q h) _⟩ rfl rfl hl.1 rfl (lv_room (Nat.le_of_ble_eq_true rfl)) (fk_get fk_cX9_readAny_0 17 rfl) ⟨Nat.zero_le _, Nat.zero_le _⟩) hS (fun q _ h => hFc q h) hFc (fun r_18 S_20 t_ H locs ht_ hvm_ hw_19 hB_ hz_ hk_ hS => ?_)
        obtain ⟨hP, -, hD1_⟩ := hB_
        rw [ht_] at hP
        have hD : va_D A (wX G ad S_20) := hD1_.weaken (fun k q _ h => hFc q.1 h)
        try dsimp only at hw_19
        obtain ⟨hX_21, hF_22_, hw_19⟩ := hw_19
        have hF_22 : Fr (fun j k => (j = 57 ∧ (k = 2 ∨ k = 7 ∨ k = 8)) ∨ ((j = 59 ∨ j = 60) ∧ k = 99)) S S_20 := Fr.trans hF_16 (Fr.mono hF_22_ (fun j k h => by omega))
        have hK29 := hw_19
        have hT29 := hT21.fr hF_22_ (fun q => by omega) (fun q => by omega)
        refine lv_if_eq (tgt := 45) hx hb (fk_get fk_cX9_readAny_0 18 rfl) (by decide) (fun c_23 => ?_) (fun c_23 => ?_)
        · obtain ⟨e29, hp29⟩ := rd_n hK29 c_23
          refine lv_iconst (v := 0) hx hb (fk_get fk_cX9_readAny_0 24 rfl) (by decide) ?_
          subst hQ
          have hpost : XI S_20 ∧ Fr (fun j k => (j = 57 ∧ (k = 2 ∨ k = 7 ∨ k = 8)) ∨ ((j = 59 ∨ j = 60) ∧ k = 99)) S S_20 ∧ RdP (anyP cdA (oneP cdA τ 4) τ pz) c (0 : Int32) S S_20 := by
            exact ⟨hX_21, hF_22, by first | exact rd_0 (thn_n e2) hp2 | exact rd_1 (hQ2.symm.trans (seq_no n21 _)) hp21 (hCl.keep hf21 (fun q => by omega) (fun q => by omega) (fun q => by omega)) | exact rd_1 (hQ2.symm.trans (by rw [show 100 - k = 0 by omega]; rfl)) hql hCl | exact rd_0 (hQ2.symm.trans ((seq_s (by omega) h21).trans (thn_n e29))) hp29⟩
          exact W.zret (v := 0) hx hb hr rfl (fun t_ ht_ hW_ => ⟨⟨0, S_20, rfl, hpost, by rw [ht_]; exact hP, va_K.moved hW_.alike hK, hD⟩, hS.F ht_⟩) hS.2.2 (fk_get fk_cX9_readAny_0 25 rfl)
        obtain ⟨M, e29, hp29, hC29⟩ := rd_y hK29 c_23
        obtain ⟨g5, g6, g7⟩ := hTx.all 4 (q + 1) (by omega)
        have g8 := g7 M e29
        have hc29 := hC29.1
        refine lv_aload_n hx hb (fk_get fk_cX9_readAny_0 19 rfl) rfl (lv_at hl 1 rfl) ?_
        refine lv_bipush (v := 20) hx hb (fk_get fk_cX9_readAny_0 20 rfl) (by decide) ?_
        refine lv_iconst (v := 0) hx hb (fk_get fk_cX9_readAny_0 21 rfl) (by decide) ?_
        have hFc := va_self hD hS hA
        refine va_calli (va_runV (As := [.int (20), .int (0)]) (rest := []) ⟨hx, hb, hml, hown, hT⟩ (c_x9_putE l G ad S_20 H.size (c + L.length + M.length) (20) (0) (by first | assumption | omega) (by first | assumption | omega) (hX_21)) (tV 2 hT m3_68 m3_70 mp_9 m1_12 m3_71 rfl rfl (by decide +kernel) ⟨Nat.le_of_ble_eq_true rfl, Nat.le_of_ble_eq_true rfl⟩) ⟨PcW_blind, va_recv hK hP (ci := 11) (q0 := 57) rfl (ix_at (lt71 (by omega)) (cX_text G ad S_20)), PcW_of hP hK hD _⟩ rfl rfl hl.1 rfl (lv_room (Nat.le_of_ble_eq_true rfl)) (fk_get fk_cX9_readAny_0 22 rfl) ⟨Nat.zero_le _, Nat.zero_le _⟩) hS (fun q _ h => hFc q h) hFc (fun r_24 S_26 t_ H locs ht_ hvm_ hw_25 hB_ hz_ hk_ hS => ?_)
        obtain ⟨hP, -, hD1_⟩ := hB_
        rw [ht_] at hP
        have hD : va_D A (wX G ad S_26) := hD1_.weaken (fun k q _ h => hFc q.1 h)
        try dsimp only at hw_25
        obtain ⟨hX_27, hF_28_, hw_25⟩ := hw_25
        have hF_28 : Fr (fun j k => (j = 57 ∧ (k = 2 ∨ k = 7 ∨ k = 8)) ∨ ((j = 59 ∨ j = 60) ∧ k = 99)) S S_26 := Fr.trans hF_22 (Fr.mono hF_28_ (fun j k h => by omega))
        obtain ⟨e_, hP39⟩ := hw_25
        subst e_
        have hp39 := (Fr.F hF_28_ (j := 57) (k := 2) (lt71 (by omega)) (fun q => by omega)).trans hp29
        have hT39 := hT29.fr hF_28_ (fun q => by omega) (fun q => by omega)
        refine lv_if_ne (tgt := 47) hx hb (fk_get fk_cX9_readAny_0 23 rfl) (by decide) (fun _ => ?_) (fun c_29 => absurd c_29 ((by decide)))
        refine lv_iinc (v := (nI (k + 1))) (lv' := [(2, .int ((nI (k + 1)))), (0, .ref (ad 57)), (1, .int (0))]) hx hb (fk_get fk_cX9_readAny_0 26 rfl) hl (k := 0) rfl ((nI_1 k)) (by decide) rfl (fun ls hl => ?_)
        refine lv_goto (tgt := 12) hx hb (fk_get fk_cX9_readAny_0 27 rfl) (by decide) ?_
        exact ih (k + 1) (((allP cdA (oneP cdA τ 4) τ) (q + 1)).2) ((cdA.2.2.2 L M)) (S_26) _ _ ls (hX_27) (hF_28) (by omega) (by omega) (hT39) (hp39) (g6) ((by rw [show (cdA.2.2.2 L M).length = L.length + M.length + 1 from op_len L M _]; omega)) (((hCl.keep hf21 (fun q => by omega) (fun q => by omega) (fun q => by omega)).app hC29).put (by rw [List.length_append, ← Nat.add_assoc]; exact hP39)) (((thn_s e29).symm.trans ((seq_s (by omega) h21).symm.trans hQ2))) hP hD hS (lv_sub hl [0, 1, 2] rfl)
    exact lp_7 (101) (0) (((allP cdA (oneP cdA τ 4) τ) pz).2) (L2) (S_3) _ _ ls (hX_4) (hF_5) (by omega) (by omega) (hT2) (hp2) (g2) (g4) (hC2) ((thn_s e2).symm) hP hD hS (lv_sub hl [0, 1, 2] rfl)
  obtain ⟨e2, hp2⟩ := rd_n hK2 (by assumption)
  refine lv_iconst (v := 0) hx hb (fk_get fk_cX9_readAny_0 4 rfl) (by decide) ?_
  subst hQ
  have hpost : XI S_3 ∧ Fr (fun j k => (j = 57 ∧ (k = 2 ∨ k = 7 ∨ k = 8)) ∨ ((j = 59 ∨ j = 60) ∧ k = 99)) S S_3 ∧ RdP (anyP cdA (oneP cdA τ 4) τ pz) c (0 : Int32) S S_3 := by
    exact ⟨hX_4, hF_5, by first | exact rd_0 (thn_n e2) hp2 | exact rd_1 (hQ2.symm.trans (seq_no n21 _)) hp21 (hCl.keep hf21 (fun q => by omega) (fun q => by omega) (fun q => by omega)) | exact rd_1 (hQ2.symm.trans (by rw [show 100 - k = 0 by omega]; rfl)) hql hCl | exact rd_0 (hQ2.symm.trans ((seq_s (by omega) h21).trans (thn_n e29))) hp29⟩
  exact W.zret (v := 0) hx hb hr rfl (fun t_ ht_ hW_ => ⟨⟨0, S_3, rfl, hpost, by rw [ht_]; exact hP, va_K.moved hW_.alike hK, hD⟩, hS.F ht_⟩) hS.2.2 (fk_get fk_cX9_readAny_0 5 rfl)
