def setQ (S : FS) (i : Nat) (r : Nat → Option Nat) : FS := (S.1, S.2.1, S.2.2.1, va_up S.2.2.2.1 i r, S.2.2.2.2)
theorem fR_setQ (S : FS) (i : Nat) (r : Nat → Option Nat) (j : Nat) : fR (setQ S i r) j = if j = i then r else fR S j := rfl
theorem wX_setQ {G : GG} {ad : Nat → Nat} {S : FS} {i : Nat} {r : Nat → Option Nat} {c : va_E} (hi : i < 71 + fC S) (hc : cX G ad (setQ S i r) i = c) : (wX G ad S).set i (ad i, c) = wX G ad (setQ S i r) := by
  refine ix_put hi (fun j => ?_)
  by_cases h : j = i
  · subst h
    rw [va_up_self, hc]
  · rw [va_up_ne _ _ h]
    unfold cX
    rw [show fR (setQ S i r) j = fR S j from va_up_ne _ _ h]
    rfl
/-- the list is as it was made -/
def LA (S : FS) : Prop := fR S 61 1 = none ∧ fF S 61 2 = nI 0
/-- the list has z elements in the row pl of nz places -/
def LB (S : FS) (pl nz z : Nat) : Prop := fR S 61 1 = some pl ∧ 71 ≤ pl ∧ pl < 71 + fC S ∧ fK S pl = 2 ∧ fN S pl = nz ∧ 2 ≤ nz ∧ nz ≤ 64 ∧ fF S 61 2 = nI z ∧ z ≤ nz ∧ ∀ i, i < z → ∃ j, j < 256 ∧ fR S pl i = some j
theorem XLi.ab {S : FS} (h : XLi S) : LA S ∨ ∃ pl nz z, LB S pl nz z := by
  obtain ⟨z, h1, ⟨h2, rfl⟩ | ⟨p, h2, h3, h4, h5, h6, h7, h8, h9⟩⟩ := h
  · exact Or.inl ⟨h2, h1⟩
  · exact Or.inr ⟨p, _, z, h2, h3, h4, h5, rfl, h6, h7, h1, h8, h9⟩
theorem LB.li {S : FS} {pl nz z : Nat} (h : LB S pl nz z) : XLi S := by
  obtain ⟨h2, h3, h4, h5, h6, h7, h8, h1, h9, h10⟩ := h
  exact ⟨z, h1, Or.inr ⟨pl, h2, h3, h4, h5, by rw [h6]; exact h7, by rw [h6]; exact h8, by rw [h6]; exact h9, h10⟩⟩
theorem LA.li {S : FS} (h : LA S) : XLi S := ⟨0, h.2, Or.inl ⟨h.1, rfl⟩⟩
/-- only the list has changed -/
theorem XI.li {S S' : FS} (h : XI S) (f : Fr (fun j _ => j = 61 ∨ (71 ≤ j ∧ fK S j = 2)) S S') (hC : fC S' = fC S) (hL : XLi S') : XI S' := by
  obtain ⟨h1, h2, h3, h4, h5, h6, h7, h8, h9, h10⟩ := h
  refine ⟨h1.fr f (by omega), h2.fr f (by omega), h3.fr f (by omega), ⟨fun s hs => ?_, fun p m b p1 p2 p3 p4 => ?_⟩, h5.fr f (by omega) (by omega), h6.fr f (by omega), h7.fr f (by omega), h8.fr f (by omega) (by omega), h9.fr f (by omega), hL⟩
  · obtain ⟨p, e1, e2⟩ := h4.1 s hs
    have := e2.2.2.1
    have := e2.1
    exact ⟨p, (f.R (lt71 (by omega)) (by omega)).trans e1, e2.at f (by omega)⟩
  · rw [hC] at p2 ⊢
    have k0 : fK S p = 0 := (f.K p2).symm.trans p3
    exact h4.2 p m b p1 p2 k0 ((f.R p2 (by omega)).symm.trans p4)
theorem cX_lstA {G : GG} {ad : Nat → Nat} {S : FS} (h : fR S 61 1 = none) : cX G ad S 61 = .inr (1, [.int (fF S 61 0), .ref G.2.2.1, .int (fF S 61 2)]) := by
  rw [cX_lst, h]
theorem cX_lstB {G : GG} {ad : Nat → Nat} {S : FS} {p : Nat} (h : fR S 61 1 = some p) : cX G ad S 61 = .inr (1, [.int (fF S 61 0), .ref (ad p), .int (fF S 61 2)]) := by
  rw [cX_lst, h]
theorem cX_obsn {G : GG} {ad : Nat → Nat} {S : FS} {pl nz z : Nat} (h : LB S pl nz z) : cX G ad S pl = .inl (G.2.1 6, nz, .inr (.inr (.inr (.inr (fun k => (fR S pl k).map G.2.2.2))))) := by
  rw [cX_obs h.2.1 h.2.2.2.1, h.2.2.2.2.1]
theorem pX_lstA {G : GG} {ad : Nat → Nat} {S : FS} (h : fR S 61 1 = none) (k : Nat) (hk : k = 0 ∨ k = 2) (x : Int32) : (wX G ad S).set 61 (ad 61, .inr (1, List.set [.int (fF S 61 0), .ref G.2.2.1, .int (fF S 61 2)] k (.int x))) = wX G ad (setF S 61 k x) :=
  wX_setF (lt71 (by omega)) (by
    have h' : fR (setF S 61 k x) 61 1 = none := h
    rw [cX_lstA h']
    rcases hk with rfl | rfl <;> simp [fF_setF])
theorem pX_lstB {G : GG} {ad : Nat → Nat} {S : FS} {p : Nat} (h : fR S 61 1 = some p) (k : Nat) (hk : k = 0 ∨ k = 2) (x : Int32) : (wX G ad S).set 61 (ad 61, .inr (1, List.set [.int (fF S 61 0), .ref (ad p), .int (fF S 61 2)] k (.int x))) = wX G ad (setF S 61 k x) :=
  wX_setF (lt71 (by omega)) (by
    have h' : fR (setF S 61 k x) 61 1 = some p := h
    rw [cX_lstB h']
    rcases hk with rfl | rfl <;> simp [fF_setF])
theorem pX_lstAE {G : GG} {ad : Nat → Nat} {S : FS} (h : fR S 61 1 = none) (x : Nat) : (wX G ad S).set 61 (ad 61, .inr (1, List.set [.int (fF S 61 0), .ref G.2.2.1, .int (fF S 61 2)] 1 (.ref (ad x)))) = wX G ad (setR S 61 1 (some x)) :=
  wX_setR (lt71 (by omega)) (by
    rw [cX_lstB (S := setR S 61 1 (some x)) (p := x) (by rw [fR_setR, if_pos ⟨rfl, rfl⟩])]
    rfl)
theorem pX_lstBE {G : GG} {ad : Nat → Nat} {S : FS} {p : Nat} (h : fR S 61 1 = some p) (x : Nat) : (wX G ad S).set 61 (ad 61, .inr (1, List.set [.int (fF S 61 0), .ref (ad p), .int (fF S 61 2)] 1 (.ref (ad x)))) = wX G ad (setR S 61 1 (some x)) :=
  wX_setR (lt71 (by omega)) (by
    rw [cX_lstB (S := setR S 61 1 (some x)) (p := x) (by rw [fR_setR, if_pos ⟨rfl, rfl⟩])]
    rfl)
theorem pX_obsR {G : GG} {ad : Nat → Nat} {S : FS} {p n i : Nat} {v : Option Nat} (h71 : 71 ≤ p) (hlt : p < 71 + fC S) (hk : fK S p = 2) (hn : fN S p = n) : (wX G ad S).set p (ad p, .inl (G.2.1 6, n, .inr (.inr (.inr (.inr (va_up (fun k => (fR S p k).map G.2.2.2) i (v.map G.2.2.2))))))) = wX G ad (setR S p i v) :=
  wX_setR hlt (by
    have hk' : fK (setR S p i v) p = 2 := hk
    have hn' : fN (setR S p i v) p = n := hn
    rw [cX_obs h71 hk', hn']
    congr 7
    funext k
    rw [fR_setR]
    unfold va_up
    by_cases e : k = i
    · rw [if_pos ⟨rfl, e⟩, if_pos e]
    · rw [if_neg (fun q => e q.2), if_neg e])
theorem pX_obsQ {G : GG} {ad : Nat → Nat} {S : FS} {p n : Nat} {r : Nat → Option Nat} {g : Nat → Option Nat} (h71 : 71 ≤ p) (hlt : p < 71 + fC S) (hk : fK S p = 2) (hn : fN S p = n) (hg : ∀ k, g k = (r k).map G.2.2.2) : (wX G ad S).set p (ad p, .inl (G.2.1 6, n, .inr (.inr (.inr (.inr g))))) = wX G ad (setQ S p r) :=
  wX_setQ hlt (by
    have hk' : fK (setQ S p r) p = 2 := hk
    have hn' : fN (setQ S p r) p = n := hn
    rw [cX_obs h71 hk', hn', fR_setQ, if_pos rfl, show g = fun k => (r k).map G.2.2.2 from funext hg])
theorem box_any {G : GG} {A : Nat → Prop} {s : State} {H : Heap} {locs : List Loc} {j : Nat} (hE : EN G A s s.heap) (hS : va_S A s.heap H locs) (hK : va_K G.1 vwCl (TYS G) s) (hj : j < 256) : va_Any "java/lang/Object" s H (G.2.2.2 j) := by
  obtain ⟨cell, c1, c2, c3, c4⟩ := hE.2.2.2.1.2.2.2.1 j hj
  have hlt : G.2.2.2 j < s.heap.size := (Array.getElem?_eq_some_iff.mp c1).1
  have hH : H[G.2.2.2 j]? = some cell := (hS.2.1 _ hlt c4).trans c1
  obtain ⟨h1, kC, h2, -⟩ := (hK.1 0 _ rfl).2
  have e : cell.cls = G.1.1 0 := Option.some.inj (c3.symm.trans h1)
  exact ⟨cell, hH, c2, ⟨kC, by rw [e]; exact h2⟩, fun comp hc => vb_asgC hE.2.2.2.2.2.2.2.1 comp cell.cls hc c3⟩
theorem box_cell {G : GG} {A : Nat → Prop} {s : State} {H : Heap} {locs : List Loc} {j : Nat} (hE : EN G A s s.heap) (hS : va_S A s.heap H locs) (hj : j < 256) : ∃ cell : Cell, H[G.2.2.2 j]? = some cell ∧ cell.vm.isStatics = false ∧ s.vm.findClass "java/lang/Integer" = some cell.cls := by
  obtain ⟨cell, c1, c2, c3, c4⟩ := hE.2.2.2.1.2.2.2.1 j hj
  have hlt : G.2.2.2 j < s.heap.size := (Array.getElem?_eq_some_iff.mp c1).1
  exact ⟨cell, (hS.2.1 _ hlt c4).trans c1, c2, c3⟩
theorem obs_cell {G : GG} {ad : Nat → Nat} {S : FS} {s : State} {H : Heap} {p : Nat} (hK : va_K G.1 vwCl (TYS G) s) (hP : va_P G.1 vwCl (wX G ad S) H) (h71 : 71 ≤ p) (hlt : p < 71 + fC S) (hk : fK S p = 2) : ∃ cell : Cell, H[ad p]? = some cell ∧ cell.vm.isStatics = false ∧ s.vm.findClass "[Ljava/lang/Object;" = some cell.cls :=
  ⟨_, hP p _ (ix_at hlt (cX_obs h71 hk)), rfl, va_nmO (hK.2 6 _ rfl).2 rfl⟩
section ROWQ
variable {p : Program} {l : Launch} {e : Env} {R : Room} {s : State} {m : MethodId} {args : Array Value} {below : List Frame} {meth : Method} {c : Code} {H : Heap} {locs : List Loc} {cells slots : Nat} {Q : State → Prop}
variable {cc : ByteArray} {pc : Nat} {ls : Array Slot} {rest : List Value} {D : va_G} {cl : List vw_C} {A : Nat → Prop} {a : Nat} {tys : List (ClassId × FieldType)} {ws : va_W} {H0 : Heap}
/-- new T[n] where the world knows the row's class -/
theorem r_newq (hexec : p.tables.exec = Jvm.exec) (hb : c.code = cc) {own C : String} {index : Nat} (hown : s.vm.findClass own = some m.cls) (hclink : (Cond.classLink own index C).before args s = true) (hover : va_AO C s) (hK : va_K D cl tys s) (hP : va_P D cl ws H) (hD : va_D A ws) (hS : va_S A H0 H locs) (hA : ∀ q, H0.size ≤ q → A q) (t0 : Nat) {cB : ClassId} (ht : tys[t0]? = some (cB, .object C))
    {n : Int32} {N' : Nat} (hn : ¬ n < 0) (hN : n.toNatClampNeg = N') (hbytes : N' * 4 ≤ 536870912) (hcells : cells + 1 ≤ R.cells) (hslots : slots + N' ≤ R.slots) (hdg : decode cc pc = .ok (.anewarray index, 3))
    (kk : ∀ (q : Nat) (H1 : Heap), va_P D cl (ws ++ [(q, .inl (cB, N', .inr (.inr (.inr (.inr (fun _ => none))))))]) H1 → va_D A (ws ++ [(q, .inl (cB, N', .inr (.inr (.inr (.inr (fun _ => none))))))]) → va_S A H0 H1 locs →
      W p l e R s m args below meth c H1 locs (cells + 1) (slots + N') Q (F0 m (pc + 3) ls (.ref q :: rest))) : W p l e R s m args below meth c H locs cells slots Q (F0 m pc ls (.int n :: rest)) := by
  refine va_newq hexec hb hown hclink hover hK hP hD hS hA hn hN hbytes hcells hslots hdg (fun q cA H1 hK1 hP1 hD1 hS1 => ?_)
  have e1 : cA = cB := by
    obtain ⟨_, _, _, _, _, h1⟩ := (hK1.2 tys.length (cA, .object C) (by rw [List.getElem?_append_right (Nat.le_refl _), Nat.sub_self]; rfl)).2
    obtain ⟨_, _, _, _, _, h2⟩ := (hK.2 t0 (cB, .object C) ht).2
    exact Option.some.inj (h1.symm.trans h2)
  rw [e1] at hP1 hD1
  exact kk q H1 hP1 hD1 hS1
end ROWQ
theorem pX_obsJ {G : GG} {ad : Nat → Nat} {S : FS} {p n i : Nat} (j : Nat) (h71 : 71 ≤ p) (hlt : p < 71 + fC S) (hk : fK S p = 2) (hn : fN S p = n) : (wX G ad S).set p (ad p, .inl (G.2.1 6, n, .inr (.inr (.inr (.inr (va_up (fun k => (fR S p k).map G.2.2.2) i (some (G.2.2.2 j)))))))) = wX G ad (setR S p i (some j)) := pX_obsR (v := some j) h71 hlt hk hn
theorem pX_obsN {G : GG} {ad : Nat → Nat} {S : FS} {p n i : Nat} (h71 : 71 ≤ p) (hlt : p < 71 + fC S) (hk : fK S p = 2) (hn : fN S p = n) : (wX G ad S).set p (ad p, .inl (G.2.1 6, n, .inr (.inr (.inr (.inr (va_up (fun k => (fR S p k).map G.2.2.2) i none)))))) = wX G ad (setR S p i none) := pX_obsR (v := none) h71 hlt hk hn
/-- what the list holds -/
def el (S : FS) (i : Nat) : Option Nat := (fR S 61 1).bind (fun p => fR S p i)
theorem el_B {S : FS} {pl i : Nat} (h : fR S 61 1 = some pl) : el S i = fR S pl i := by
  unfold el
  rw [h]
  rfl
theorem XI.mod {S : FS} (h : XI S) (v : Int32) : XI (setF S 61 0 v) := h.li (Fr.sF Fr.rf (Or.inl rfl)) rfl (by
  obtain ⟨z, e1, e2⟩ := h.list
  exact ⟨z, by rw [fF_setF, if_neg (by omega)]; exact e1, e2⟩)
theorem LB.app {S : FS} {pl nz z j : Nat} (h : LB S pl nz z) (hz : z < nz) (hj : j < 256) : LB (setF (setR S pl z (some j)) 61 2 (nI (z + 1))) pl nz (z + 1) := by
  obtain ⟨h2, h3, h4, h5, h6, h7, h8, h1, h9, h10⟩ := h
  refine ⟨by rw [fR_setF, fR_setR, if_neg (by omega)]; exact h2, h3, h4, h5, h6, h7, h8, by rw [fF_setF, if_pos ⟨rfl, rfl⟩], by omega, fun i hi => ?_⟩
  rw [fR_setF, fR_setR]
  by_cases e : i = z
  · rw [if_pos ⟨rfl, e⟩]
    exact ⟨j, hj, rfl⟩
  · rw [if_neg (fun q => e q.2)]
    exact h10 i (by omega)
theorem LB.appX {S : FS} {pl nz z j : Nat} (hX : XI S) (h : LB S pl nz z) (hz : z < nz) (hj : j < 256) : XI (setF (setR S pl z (some j)) 61 2 (nI (z + 1))) :=
  hX.li (Fr.sF (Fr.sR Fr.rf (Or.inr ⟨h.2.1, h.2.2.2.1⟩)) (Or.inl rfl)) rfl (h.app hz hj).li
theorem LB.appE {S : FS} {pl nz z j : Nat} (h : LB S pl nz z) (hz : z < nz) (hj : j < 256) : fF (setF (setR S pl z (some j)) 61 2 (nI (z + 1))) 61 2 = nI (z + 1) ∧ (∀ i, i < z → el (setF (setR S pl z (some j)) 61 2 (nI (z + 1))) i = el S i) ∧ el (setF (setR S pl z (some j)) 61 2 (nI (z + 1))) z = some j := by
  have h' := h.app hz hj
  refine ⟨h'.2.2.2.2.2.2.2.1, fun i hi => ?_, ?_⟩
  · rw [el_B h'.1, el_B h.1, fR_setF, fR_setR, if_neg (by omega)]
  · rw [el_B h'.1, fR_setF, fR_setR, if_pos ⟨rfl, rfl⟩]
theorem LB.mod {S : FS} {pl nz z : Nat} (h : LB S pl nz z) (v : Int32) : LB (setF S 61 0 v) pl nz z := by
  obtain ⟨h2, h3, h4, h5, h6, h7, h8, h1, h9, h10⟩ := h
  exact ⟨h2, h3, h4, h5, h6, h7, h8, by rw [fF_setF, if_neg (by omega)]; exact h1, h9, h10⟩
theorem LA.mod {S : FS} (h : LA S) (v : Int32) : LA (setF S 61 0 v) := ⟨h.1, by rw [fF_setF, if_neg (by omega)]; exact h.2⟩
theorem obs_any {G : GG} {A : Nat → Prop} {s : State} {H : Heap} {locs : List Loc} {S : FS} {pl nz z : Nat} (hE : EN G A s s.heap) (hS : va_S A s.heap H locs) (hK : va_K G.1 vwCl (TYS G) s) (h : LB S pl nz z) {v : Int32} (hv : v.toNatClampNeg = z) : ∀ i : Nat, i < v.toNatClampNeg → ∀ y : Nat, (fun k => (fR S pl k).map G.2.2.2) ((0 : Int32).toNatClampNeg + i) = some y → va_Any "java/lang/Object" s H y := by
  intro i hi y hy
  obtain ⟨j, hj, e⟩ := h.2.2.2.2.2.2.2.2.2 i (by omega)
  rw [show (0 : Int32).toNatClampNeg + i = i from Nat.zero_add i] at hy
  have hy : (fR S pl i).map G.2.2.2 = some y := hy
  rw [e] at hy
  cases hy
  exact box_any hE hS hK hj
theorem cpy_map {f g : Nat → Option Nat} {m : Nat → Nat} {a b n : Nat} (k : Nat) : va_cpy (fun k => (f k).map m) (fun k => (g k).map m) a b n k = (va_cpy f g a b n k).map m := by
  unfold va_cpy
  by_cases h : b ≤ k ∧ k < b + n
  · rw [if_pos h, if_pos h]
  · rw [if_neg h, if_neg h]
theorem XI.q {S : FS} {pn : Nat} {r : Nat → Option Nat} (h : XI S) (h71 : 71 ≤ pn) (hk : fK S pn = 2) (hn : fR S 61 1 ≠ some pn) : XI (setQ S pn r) := by
  have f : Fr (fun j _ => j = pn) S (setQ S pn r) := ⟨Nat.le_refl _, fun j _ => ⟨fun k n => ⟨rfl, by rw [fR_setQ, if_neg n]⟩, fun _ => rfl, fun _ => rfl, rfl, rfl⟩⟩
  refine h.li (f.mono (fun j k e => Or.inr ⟨by omega, by rw [e]; exact hk⟩)) rfl ?_
  obtain ⟨z, e1, e2⟩ := h.list
  refine ⟨z, e1, ?_⟩
  rcases e2 with ⟨e2, e3⟩ | ⟨p, e2, e3, e4, e5, e6, e7, e8, e9⟩
  · exact Or.inl ⟨(f.R (lt71 (by omega)) (by omega)).trans e2, e3⟩
  · have hp : p ≠ pn := fun q => hn (q ▸ e2)
    refine Or.inr ⟨p, (f.R (lt71 (by omega)) (by omega)).trans e2, e3, e4, e5, e6, e7, e8, fun i hi => ?_⟩
    obtain ⟨j, hj, e10⟩ := e9 i hi
    exact ⟨j, hj, (f.R e4 hp).trans e10⟩
theorem frnewQ {P : Nat → Nat → Prop} {S0 S : FS} {a : Nat} {r : Nat → Option Nat} (h : Fr P S0 S) (ha : 71 + fC S0 ≤ a) : Fr P S0 (setQ S a r) :=
  ⟨h.1, fun j hj => ⟨fun k n => ⟨((h.2 j hj).1 k n).1, by rw [fR_setQ, if_neg (by omega)]; exact h.R hj n⟩, (h.2 j hj).2⟩⟩
theorem LB.zero {S : FS} {pl nz z : Nat} (h : LB S pl nz z) : LB (setF S 61 2 0) pl nz 0 := by
  obtain ⟨h2, h3, h4, h5, h6, h7, h8, h1, h9, h10⟩ := h
  exact ⟨h2, h3, h4, h5, h6, h7, h8, by rw [fF_setF, if_pos ⟨rfl, rfl⟩]; rfl, by omega, fun i hi => absurd hi (by omega)⟩
theorem LA.zero {S : FS} (h : LA S) : LA (setF S 61 2 0) := ⟨h.1, by rw [fF_setF, if_pos ⟨rfl, rfl⟩]; rfl⟩
theorem LB.nul {S : FS} {pl nz i : Nat} {v : Option Nat} (h : LB S pl nz 0) : LB (setR S pl i v) pl nz 0 := by
  obtain ⟨h2, h3, h4, h5, h6, h7, h8, h1, h9, h10⟩ := h
  exact ⟨by rw [fR_setR, if_neg (by omega)]; exact h2, h3, h4, h5, h6, h7, h8, h1, by omega, fun i hi => absurd hi (by omega)⟩
theorem XI.szero {S : FS} (h : XI S) (hL : XLi (setF S 61 2 0)) : XI (setF S 61 2 0) := h.li (Fr.sF Fr.rf (Or.inl rfl)) rfl hL
theorem XI.nul {S : FS} {pl nz i : Nat} {v : Option Nat} (h : XI S) (hL : LB S pl nz 0) : XI (setR S pl i v) := h.li (Fr.sR Fr.rf (Or.inr ⟨hL.2.1, hL.2.2.2.1⟩)) rfl hL.nul.li
/-- the row has been changed for a longer one -/
theorem LB.grown {S S1 : FS} {pl nz z pn cz : Nat} (h : LB S pl nz z) (f : Fr (fun j k => j = 0 ∧ j = 1) S S1) (h71 : 71 ≤ pn) (hlt : pn < 71 + fC S1) (hk : fK S1 pn = 2) (hn : fN S1 pn = cz) (hcz : 2 ≤ cz ∧ cz ≤ 64 ∧ z ≤ cz) (he : ∀ i, i < z → fR S1 pn i = fR S pl i) : LB (setR S1 61 1 (some pn)) pn cz z ∧ ∀ i, i < z → el (setR S1 61 1 (some pn)) i = el S i := by
  have h' : LB (setR S1 61 1 (some pn)) pn cz z := by
    refine ⟨by rw [fR_setR, if_pos ⟨rfl, rfl⟩], h71, hlt, hk, hn, hcz.1, hcz.2.1, (f.F (lt71 (by omega)) (by omega)).trans h.2.2.2.2.2.2.2.1, hcz.2.2, fun i hi => ?_⟩
    obtain ⟨j, hj, e⟩ := h.2.2.2.2.2.2.2.2.2 i hi
    exact ⟨j, hj, by rw [fR_setR, if_neg (by omega), he i hi]; exact e⟩
  refine ⟨h', fun i hi => ?_⟩
  rw [el_B h'.1, el_B h.1, fR_setR, if_neg (by omega), he i hi]
theorem LA.grown {S S1 : FS} {pn : Nat} (h : LA S) (f : Fr (fun j k => j = 0 ∧ j = 1) S S1) (h71 : 71 ≤ pn) (hlt : pn < 71 + fC S1) (hk : fK S1 pn = 2) (hn : fN S1 pn = 10) : LB (setR S1 61 1 (some pn)) pn 10 0 :=
  ⟨by rw [fR_setR, if_pos ⟨rfl, rfl⟩], h71, hlt, hk, hn, by omega, by omega, (f.F (lt71 (by omega)) (by omega)).trans h.2, by omega, fun i hi => absurd hi (by omega)⟩
theorem XI.grown {S1 : FS} {pn : Nat} (h : XI S1) (hL : XLi (setR S1 61 1 (some pn))) : XI (setR S1 61 1 (some pn)) := h.li (Fr.sR Fr.rf (Or.inl rfl)) rfl hL
theorem LB.fr0 {S S1 : FS} {pl nz z : Nat} (h : LB S pl nz z) (f : Fr (fun j k => j = 0 ∧ j = 1) S S1) : LB S1 pl nz z := by
  obtain ⟨h2, h3, h4, h5, h6, h7, h8, h1, h9, h10⟩ := h
  exact ⟨(f.R (lt71 (by omega)) (by omega)).trans h2, h3, Nat.lt_of_lt_of_le h4 (Nat.add_le_add_left f.1 71), (f.K h4).trans h5, (f.N h4).trans h6, h7, h8, (f.F (lt71 (by omega)) (by omega)).trans h1, h9, fun i hi => by
    obtain ⟨j, hj, e⟩ := h10 i hi
    exact ⟨j, hj, (f.R h4 (by omega)).trans e⟩⟩
theorem LA.fr0 {S S1 : FS} (h : LA S) (f : Fr (fun j k => j = 0 ∧ j = 1) S S1) : LA S1 := ⟨(f.R (lt71 (by omega)) (by omega)).trans h.1, (f.F (lt71 (by omega)) (by omega)).trans h.2⟩
theorem nl_max {z : Nat} {r : Int32} (h : r = if (1 : Int32) < nI (z / 2) then nI (z / 2) else 1) (h2 : 2 ≤ z) (h40 : z ≤ 40) : r = nI (z / 2) := by
  by_cases q : (1 : Int32) < nI (z / 2)
  · rw [if_pos q] at h
    exact h
  · rw [if_neg q] at h
    have := ci_nlt (a := 1) (b := z / 2) (by omega) (by omega) q
    rw [h, show z / 2 = 1 by omega]
    rfl
theorem gr_1 (z : Nat) : nI (z + 1) - nI z = 1 := by
  rw [pk_sub (by omega), Nat.add_sub_cancel_left]
  rfl
theorem gr_2 {z : Nat} (h : z ≤ 40) : nI z >>> ((1 : Int32) &&& 31) = nI (z / 2) := by
  have k := pk_shrN (n := z) (by omega) ((1 : Int32) &&& 31) 1 (by decide)
  rw [Nat.pow_one] at k
  exact k
theorem gr_3 {r : Int32} (h : r = if (10 : Int32) < nI 1 then nI 1 else 10) : r = 10 := by
  rw [if_neg (by decide)] at h
  exact h
theorem gr_4 {z cz : Nat} {r : Int32} (h : r = if nI cz < nI z then nI cz else nI z) (hz : z ≤ cz) (hc : cz ≤ 64) : r = nI z := by
  rw [if_neg (Int32.not_lt.mpr ((nI_leI (by omega) (by omega)).mpr hz))] at h
  exact h
