abbrev isA (i t n : Nat) : Prop := (t = 0 ∧ n = 4 ∧ (pk i = 5 ∨ pk i = 8)) ∨ (t = 0 ∧ n = 8 ∧ pk i = 6) ∨ (t = 2 ∧ n = 100 ∧ pk i = 10) ∨ (t = 0 ∧ n = 100 ∧ pk i = 11) ∨ (t = 0 ∧ n = 6 ∧ pk i = 13)
theorem cX_arr {G : GG} {ad : Nat → Nat} {S : FS} {i t n : Nat} (h : isA i t n) : cX G ad S i = .inl (G.2.1 t, n, .inl (fA S i)) := by
  unfold cX cellX
  rcases h with ⟨rfl, rfl, h | h⟩ | ⟨rfl, rfl, h⟩ | ⟨rfl, rfl, h⟩ | ⟨rfl, rfl, h⟩ | ⟨rfl, rfl, h⟩ <;> rw [h] <;> rfl
theorem pX_arr {G : GG} {ad : Nat → Nat} {S : FS} {i t n : Nat} (hi : i < 71 + fC S) (h : isA i t n) (f : Nat → Int32) : (wX G ad S).set i (ad i, .inl (G.2.1 t, n, .inl f)) = wX G ad (setA S i f) := wX_setA hi (by rw [cX_arr h, fA_setA, if_pos rfl])
theorem cX_lng {G : GG} {ad : Nat → Nat} {S : FS} {t : Nat} (h : t < 6) : cX G ad S (65 + t) = .inl (G.2.1 1, 60, .inr (.inl (fL S (65 + t)))) := by
  unfold cX cellX
  rw [show pk (65 + t) = 15 by rcases (show t = 0 ∨ t = 1 ∨ t = 2 ∨ t = 3 ∨ t = 4 ∨ t = 5 by omega) with rfl | rfl | rfl | rfl | rfl | rfl <;> rfl] <;> rfl
theorem pX_lng {G : GG} {ad : Nat → Nat} {S : FS} {t : Nat} (h : t < 6) (f : Nat → Int64) : (wX G ad S).set (65 + t) (ad (65 + t), .inl (G.2.1 1, 60, .inr (.inl f))) = wX G ad (setL S (65 + t) f) := wX_setL (lt71 (by omega)) (by rw [cX_lng h, fL_setL, if_pos rfl])
theorem cX_ppl {G : GG} {ad : Nat → Nat} {S : FS} {s : Nat} (h : s < 3) : cX G ad S (9 + s + 3) = .inl (G.2.1 5, 6, .inr (.inr (.inr (.inr (fun k => if k < 6 then some (ad (21 + 6 * s + k)) else none))))) := by
  rcases (show s = 0 ∨ s = 1 ∨ s = 2 by omega) with rfl | rfl | rfl <;> rfl
theorem cX_kar (G : GG) (ad : Nat → Nat) (S : FS) : cX G ad S 1 = .inl (G.2.1 4, 7, .inr (.inr (.inr (.inr (fun k => if k < 7 then some (ad (2 + k)) else none))))) := rfl
theorem cX_itm (G : GG) (ad : Nat → Nat) (S : FS) : cX G ad S 64 = .inl (G.2.1 7, 6, .inr (.inr (.inr (.inr (fun k => if k < 6 then some (ad (65 + k)) else none))))) := rfl
theorem cX_knd {G : GG} {ad : Nat → Nat} {S : FS} {q : Nat} (h : q < 7) : cX G ad S (2 + q) = .inr (kcl q, [.int (fF S (2 + q) 0)]) := by
  rcases (show q = 0 ∨ q = 1 ∨ q = 2 ∨ q = 3 ∨ q = 4 ∨ q = 5 ∨ q = 6 by omega) with rfl | rfl | rfl | rfl | rfl | rfl | rfl <;> rfl
theorem cX_lst (G : GG) (ad : Nat → Nat) (S : FS) : cX G ad S 61 = .inr (1, [.int (fF S 61 0), .ref (match fR S 61 1 with | none => G.2.2.1 | some k => ad k), .int (fF S 61 2)]) := rfl
theorem cX_ctr {G : GG} {ad : Nat → Nat} {S : FS} {p : Nat} (h : 71 ≤ p) (hk : fK S p = 0) : cX G ad S p = .inr (3, [.int (fF S p 0), .int (fF S p 1), va_rf ((fR S p 2).map ad), va_rf ((fR S p 3).map ad)]) := by
  rw [cX_dyn h]
  unfold dynX
  rw [if_pos hk]
theorem cX_din {G : GG} {ad : Nat → Nat} {S : FS} {a L : Nat} (h : DIN S a L) : cX G ad S a = .inl (G.2.1 0, L, .inl (fA S a)) := by
  obtain ⟨h1, h2, h3, h4⟩ := h
  rw [cX_dyn h1]
  unfold dynX
  rw [if_neg (by omega), if_pos h3, h4]
theorem cX_obs {G : GG} {ad : Nat → Nat} {S : FS} {p : Nat} (h : 71 ≤ p) (hk : fK S p = 2) : cX G ad S p = .inl (G.2.1 6, fN S p, .inr (.inr (.inr (.inr (fun k => (fR S p k).map G.2.2.2))))) := by
  rw [cX_dyn h]
  unfold dynX
  rw [if_neg (by omega), if_neg (by omega)]
theorem pk7 {i : Nat} (h : pk i = 7) : 21 ≤ i ∧ i < 39 := by
  by_cases a : 21 ≤ i ∧ i < 39
  · exact a
  · exfalso
    unfold pk at h
    by_cases c0 : i < 2
    · rw [if_pos c0] at h
      omega
    rw [if_neg c0] at h
    by_cases c1 : i < 9
    · rw [if_pos c1] at h
      omega
    rw [if_neg c1] at h
    by_cases c2 : i < 12
    · rw [if_pos c2] at h
      omega
    rw [if_neg c2] at h
    by_cases c3 : i < 15
    · rw [if_pos c3] at h
      omega
    rw [if_neg c3] at h
    by_cases c4 : i < 18
    · rw [if_pos c4] at h
      omega
    rw [if_neg c4] at h
    by_cases c5 : i < 21
    · rw [if_pos c5] at h
      omega
    rw [if_neg c5] at h
    by_cases c6 : i < 39
    · rw [if_pos c6] at h
      omega
    rw [if_neg c6] at h
    by_cases c7 : i < 57
    · rw [if_pos c7] at h
      omega
    rw [if_neg c7] at h
    by_cases c8 : i = 57
    · rw [if_pos c8] at h
      omega
    rw [if_neg c8] at h
    by_cases c9 : i = 58
    · rw [if_pos c9] at h
      omega
    rw [if_neg c9] at h
    by_cases c10 : i < 61
    · rw [if_pos c10] at h
      omega
    rw [if_neg c10] at h
    by_cases c11 : i = 61
    · rw [if_pos c11] at h
      omega
    rw [if_neg c11] at h
    by_cases c12 : i < 64
    · rw [if_pos c12] at h
      omega
    rw [if_neg c12] at h
    by_cases c13 : i = 64
    · rw [if_pos c13] at h
      omega
    rw [if_neg c13] at h
    by_cases c14 : i < 71
    · rw [if_pos c14] at h
      omega
    rw [if_neg c14] at h
    omega
theorem pk_e7 {i : Nat} (h : pk i = 7) : pk (i + 18) = 8 := by
  obtain ⟨a, b⟩ := pk7 h
  have := pk_ext (k := i - 21) (by omega)
  rwa [show 39 + (i - 21) = i + 18 by omega] at this
theorem pk_c {s c : Nat} (hs : s < 3) (hc : c < 6) : pk (21 + 6 * s + c) = 7 := by
  have := pk_cust (k := 6 * s + c) (by omega)
  rwa [← Nat.add_assoc] at this
theorem pk_sn {s : Nat} (hs : s < 3) : pk (9 + s + 6) = 5 := by rcases (show s = 0 ∨ s = 1 ∨ s = 2 by omega) with rfl | rfl | rfl <;> rfl
theorem pk_bk {s : Nat} (hs : s < 3) : pk (9 + s + 9) = 6 := by rcases (show s = 0 ∨ s = 1 ∨ s = 2 by omega) with rfl | rfl | rfl <;> rfl
theorem XI.kin {S : FS} {i : Nat} (h : XI S) (hi : pk i = 7) : ∃ q, fR S i 2 = some (2 + q) ∧ q < 7 := by
  obtain ⟨a, b⟩ := pk7 hi
  obtain ⟨q, h1, h2, h3⟩ := h.kind (k := i - 21) (by omega)
  rw [show 21 + (i - 21) = i by omega] at h1
  exact ⟨q - 2, by rw [h1]; congr 1; omega, by omega⟩
theorem XI.kput {S : FS} {i q : Nat} (h : XI S) (hi : pk i = 7) (hq : q < 7) : XI (setR S i 2 (some (2 + q))) := by
  obtain ⟨a, b⟩ := pk7 hi
  have := h.ki (k := i - 21) (q := 2 + q) (by omega) (by omega) (by omega)
  rwa [show 21 + (i - 21) = i by omega] at this
theorem XI.gone_ {S : FS} {i : Nat} {v : Int32} (h : XI S) (hi : pk i = 7) (hv : v = 0 ∨ v = 1) : XI (setF S i 9 v) := by
  obtain ⟨a, b⟩ := pk7 hi
  have := h.go (k := i - 21) (by omega) hv
  rwa [show 21 + (i - 21) = i by omega] at this
theorem XI.gone01 {S : FS} {i : Nat} (h : XI S) (hi : pk i = 7) : fF S i 9 = 0 ∨ fF S i 9 = 1 := by
  obtain ⟨a, b⟩ := pk7 hi
  have := h.isgone (k := i - 21) (by omega)
  rwa [show 21 + (i - 21) = i by omega] at this
section ROWSX
variable {p : Program} {l : Launch} {e : Env} {R : Room} {s : State} {m : MethodId} {args : Array Value} {below : List Frame} {meth : Method} {c : Code} {H : Heap} {locs : List Loc} {cells slots : Nat} {Q : State → Prop}
variable {cc : ByteArray} {pc : Nat} {ls : Array Slot} {rest : List Value} {A : Nat → Prop} {H0 : Heap} {G : GG} {ad : Nat → Nat} {S : FS}
theorem x_ppl (hexec : p.tables.exec = Jvm.exec) (hb : c.code = cc) (hK : va_K G.1 vwCl (TYS G) s) (hP : va_P G.1 vwCl (wX G ad S) H) {h k : Nat} (hh : h < 3) (hk : k < 6) {i : Int32} (hi : i = nI k) (hdg : decode cc pc = .ok (.aaload, 1))
    (kk : W p l e R s m args below meth c H locs cells slots Q (F0 m (pc + 1) ls (.ref (ad (21 + 6 * h + k)) :: rest))) : W p l e R s m args below meth c H locs cells slots Q (F0 m pc ls (.int i :: .ref (ad (9 + h + 3)) :: rest)) := by
  subst hi
  refine va_aldq hexec hb hK hP (9 + h + 3) 5 (ix_at (lt71 (by omega)) (cX_ppl hh)) rfl (vp_in_nI hk (by omega)) hdg ?_
  rw [nI_clamp (by omega), if_pos hk]
  exact kk
theorem x_kar (hexec : p.tables.exec = Jvm.exec) (hb : c.code = cc) (hK : va_K G.1 vwCl (TYS G) s) (hP : va_P G.1 vwCl (wX G ad S) H) {k : Nat} (hk : k < 7) {i : Int32} (hi : i = nI k) (hdg : decode cc pc = .ok (.aaload, 1))
    (kk : W p l e R s m args below meth c H locs cells slots Q (F0 m (pc + 1) ls (.ref (ad (2 + k)) :: rest))) : W p l e R s m args below meth c H locs cells slots Q (F0 m pc ls (.int i :: .ref (ad 1) :: rest)) := by
  subst hi
  refine va_aldq hexec hb hK hP 1 4 (ix_at (lt71 (by omega)) (cX_kar G ad S)) rfl (vp_in_nI hk (by omega)) hdg ?_
  rw [nI_clamp (by omega), if_pos hk]
  exact kk
theorem x_itm (hexec : p.tables.exec = Jvm.exec) (hb : c.code = cc) (hK : va_K G.1 vwCl (TYS G) s) (hP : va_P G.1 vwCl (wX G ad S) H) {k : Nat} (hk : k < 6) {i : Int32} (hi : i = nI k) (hdg : decode cc pc = .ok (.aaload, 1))
    (kk : W p l e R s m args below meth c H locs cells slots Q (F0 m (pc + 1) ls (.ref (ad (65 + k)) :: rest))) : W p l e R s m args below meth c H locs cells slots Q (F0 m pc ls (.int i :: .ref (ad 64) :: rest)) := by
  subst hi
  have hin : vp_in (nI k) 6 := vp_in_nI hk (by omega)
  have hc : (nI k).toNatClampNeg = k := nI_clamp (by omega)
  exact W.aald (v := .ref (ad (65 + k))) (ty := .array .long) hexec hb (hP 64 _ (ix_at (lt71 (by omega)) (cX_itm G ad S))) ((hK.2 7 _ rfl).1 6 (fun j => va_rf (if j < 6 then some (ad (65 + j)) else none))) rfl (fun q => by cases q) (by show ¬ (nI k < 0 ∨ (arrV _ _ _).slots.size ≤ _); rw [arrV_size]; exact hin) (by show (arrV _ _ _).slots[_]? = _; rw [hc, arrV_read _ _ hk]; show some (va_rf (if k < 6 then some (ad (65 + k)) else none)) = _; rw [if_pos hk]; rfl) rfl rfl hdg kk
end ROWSX
