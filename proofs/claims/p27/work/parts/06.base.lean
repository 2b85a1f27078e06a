abbrev GG : Type := va_G × (Nat → ClassId) × Nat × (Nat → Nat)
abbrev TYS (G : GG) : List (ClassId × FieldType) := [(G.2.1 0, .int), (G.2.1 1, .long), (G.2.1 2, .byte), (G.2.1 3, .boolean), (G.2.1 4, .object "LittleMore$Kind"), (G.2.1 5, .object "LittleMore$Customer"), (G.2.1 6, .object "java/lang/Object"), (G.2.1 7, .array .long)]
/-- a flat state: int fields, int rows, long rows, references that change, lengths, kinds of the cells made later, how many cells -/
abbrev FS : Type := (Nat → Nat → Int32) × (Nat → Nat → Int32) × (Nat → Nat → Int64) × (Nat → Nat → Option Nat) × (Nat → Nat) × (Nat → Nat) × Nat
abbrev fF (S : FS) : Nat → Nat → Int32 := S.1
abbrev fA (S : FS) : Nat → Nat → Int32 := S.2.1
abbrev fL (S : FS) : Nat → Nat → Int64 := S.2.2.1
abbrev fR (S : FS) : Nat → Nat → Option Nat := S.2.2.2.1
abbrev fN (S : FS) : Nat → Nat := S.2.2.2.2.1
abbrev fK (S : FS) : Nat → Nat := S.2.2.2.2.2.1
abbrev fC (S : FS) : Nat := S.2.2.2.2.2.2
def setF (S : FS) (i k : Nat) (v : Int32) : FS := (va_up S.1 i (va_up (S.1 i) k v), S.2)
def setA (S : FS) (i : Nat) (f : Nat → Int32) : FS := (S.1, va_up S.2.1 i f, S.2.2)
def setL (S : FS) (i : Nat) (f : Nat → Int64) : FS := (S.1, S.2.1, va_up S.2.2.1 i f, S.2.2.2)
def setR (S : FS) (i k : Nat) (v : Option Nat) : FS := (S.1, S.2.1, S.2.2.1, va_up S.2.2.2.1 i (va_up (S.2.2.2.1 i) k v), S.2.2.2.2)
theorem fF_setF (S : FS) (i k : Nat) (v : Int32) (j m : Nat) : fF (setF S i k v) j m = if j = i ∧ m = k then v else fF S j m := by
  simp only [fF, setF, va_up]
  by_cases h : j = i
  · subst h
    by_cases h2 : m = k
    · simp [h2, va_up]
    · simp [h2, va_up]
  · simp [h]
theorem fA_setA (S : FS) (i : Nat) (f : Nat → Int32) (j : Nat) : fA (setA S i f) j = if j = i then f else fA S j := rfl
theorem fL_setL (S : FS) (i : Nat) (f : Nat → Int64) (j : Nat) : fL (setL S i f) j = if j = i then f else fL S j := rfl
theorem fR_setR (S : FS) (i k : Nat) (v : Option Nat) (j m : Nat) : fR (setR S i k v) j m = if j = i ∧ m = k then v else fR S j m := by
  simp only [fR, setR, va_up]
  by_cases h : j = i
  · subst h
    by_cases h2 : m = k
    · simp [h2, va_up]
    · simp [h2, va_up]
  · simp [h]
theorem fA_setF (S : FS) (i k : Nat) (v : Int32) : fA (setF S i k v) = fA S := rfl
theorem fR_setF (S : FS) (i k : Nat) (v : Int32) : fR (setF S i k v) = fR S := rfl
theorem fF_setA (S : FS) (i : Nat) (f : Nat → Int32) : fF (setA S i f) = fF S := rfl
theorem fR_setA (S : FS) (i : Nat) (f : Nat → Int32) : fR (setA S i f) = fR S := rfl
theorem fF_setL (S : FS) (i : Nat) (f : Nat → Int64) : fF (setL S i f) = fF S := rfl
theorem fA_setL (S : FS) (i : Nat) (f : Nat → Int64) : fA (setL S i f) = fA S := rfl
theorem fF_setR (S : FS) (i k : Nat) (v : Option Nat) : fF (setR S i k v) = fF S := rfl
theorem fA_setR (S : FS) (i k : Nat) (v : Option Nat) : fA (setR S i k v) = fA S := rfl
/-- a world by places: cell k lies at ad k -/
def ix (N : Nat) (ad : Nat → Nat) (g : Nat → va_E) : va_W := (List.range N).map (fun k => (ad k, g k))
theorem ix_some {N : Nat} {ad : Nat → Nat} {g : Nat → va_E} {k : Nat} {q : Nat × va_E} (h : (ix N ad g)[k]? = some q) : k < N ∧ q = (ad k, g k) := by
  unfold ix at h
  rw [List.getElem?_map] at h
  by_cases hk : k < N
  · rw [List.getElem?_range hk] at h
    exact ⟨hk, (Option.some.inj h).symm⟩
  · rw [List.getElem?_eq_none (by rw [List.length_range]; omega)] at h
    cases h
theorem ix_get {N : Nat} {ad : Nat → Nat} {g : Nat → va_E} {k : Nat} (h : k < N) : (ix N ad g)[k]? = some (ad k, g k) := by
  unfold ix
  rw [List.getElem?_map, List.getElem?_range h]
  rfl
theorem ix_at {N : Nat} {ad : Nat → Nat} {g : Nat → va_E} {k : Nat} {c : va_E} (h : k < N) (hc : g k = c) : (ix N ad g)[k]? = some (ad k, c) := by
  rw [ix_get h, hc]
theorem ix_len {N : Nat} {ad : Nat → Nat} {g : Nat → va_E} : (ix N ad g).length = N := by
  unfold ix
  rw [List.length_map, List.length_range]
theorem ix_put {N : Nat} {ad : Nat → Nat} {g g' : Nat → va_E} {i : Nat} {c : va_E} (h : i < N) (e : ∀ j, va_up g i c j = g' j) : (ix N ad g).set i (ad i, c) = ix N ad g' := by
  apply List.ext_getElem?
  intro k
  by_cases hk : k = i
  · subst hk
    rw [List.getElem?_set_self (by rw [ix_len]; exact h), ix_get h, ← e k, va_up_self]
  · rw [List.getElem?_set_ne (Ne.symm hk)]
    by_cases hN : k < N
    · rw [ix_get hN, ix_get hN, ← e k, va_up_ne _ _ hk]
    · rw [List.getElem?_eq_none (by rw [ix_len]; omega), List.getElem?_eq_none (by rw [ix_len]; omega)]
theorem ix_push {N : Nat} {ad : Nat → Nat} {g : Nat → va_E} {q : Nat} {c : va_E} {ad' : Nat → Nat} {g' : Nat → va_E} (ha : ∀ j, j < N → ad' j = ad j) (ha2 : ad' N = q) (hg : ∀ j, j < N → g' j = g j) (hg2 : g' N = c) : ix N ad g ++ [(q, c)] = ix (N + 1) ad' g' := by
  unfold ix
  rw [List.range_succ, List.map_append]
  congr 1
  · apply List.map_congr_left
    intro a h
    have h := List.mem_range.mp h
    rw [ha a h, hg a h]
  · simp [ha2, hg2]
/-- a method's start over a world, and what its end says -/
def PcW (G : GG) (w : va_W) (sz : Nat) (as : List Value) : Array Value → State → Prop := va_Pc as (fun U => U.heap.size = sz ∧ va_P G.1 vwCl w U.heap ∧ va_K G.1 vwCl (TYS G) U ∧ va_D (fun _ => True) w)
def BW (G : GG) (A : Nat → Prop) (w : va_W) (t : State) : Prop := va_P G.1 vwCl w t.heap ∧ va_K G.1 vwCl (TYS G) t ∧ va_D A w
theorem PcW_blind {G : GG} {w : va_W} {sz : Nat} {as : List Value} : FrameBlind (PcW G w sz as) := fun a U g mk q => ⟨q.1, q.2.1, q.2.2.1, va_K.moved (u := U) (U := U.calling g mk a) (Vm.Alike.refl U.vm) q.2.2.2.1, q.2.2.2.2⟩
theorem PcW_of {G : GG} {w : va_W} {A : Nat → Prop} {H : Heap} {s : State} (hP : va_P G.1 vwCl w H) (hK : va_K G.1 vwCl (TYS G) s) (hD : va_D A w) (as : List Value) : ∀ U : State, U.heap = H → s.WarmedH U.vm → PcW G w H.size as as.toArray U := fun U hU hW => ⟨rfl, by rw [hU], by rw [hU]; exact hP, va_K.moved hW.alike hK, hD.weaken (fun _ _ _ _ => trivial)⟩
def PcN (as : List Value) : Array Value → State → Prop := va_Pc as (fun _ => True)
theorem PcN_blind {as : List Value} : FrameBlind (PcN as) := fun _ _ _ _ q => q
theorem PcN_of (as : List Value) (H : Heap) (s : State) : ∀ U : State, U.heap = H → s.WarmedH U.vm → PcN as as.toArray U := fun _ _ _ => ⟨rfl, trivial⟩
theorem va_self {w : va_W} {A0 : Nat → Prop} {H0 H : Heap} {locs : List Loc} (hD : va_D A0 w) (hS : va_S A0 H0 H locs) (hA : ∀ q, H0.size ≤ q → A0 q) : ∀ q, va_A w H.size q → A0 q := by
  intro q h
  rcases h with ⟨k, e, h⟩ | h
  · exact hD.2 k (q, e) h
  · exact hA q (Nat.le_trans hS.1 h)
section CALLS
variable {p : Program} {l : Launch} {e : Env} {R : Room} {s : State} {m : MethodId} {args : Array Value} {own C : String} {index maxL n mc ms : Nat} {y x : MethodName} {bytes : ByteArray} {ret : Option FieldType} {rm : Room}
theorem tG (h4 : Cond.code y bytes maxL ret ∈ TBL) : GoodIn TBL (Cond.code y bytes maxL ret :: TBL) := tbl_goodIn (fun w h => (List.mem_cons.mp h).elim (fun e => e ▸ h4) id) (fun _ h => h)
theorem tB (n : Nat) (hT : ∀ w ∈ TBL, w.before args s = true) (h1 : Cond.methodLink own index y ∈ TBL) (h3 : Cond.initialized y.cls ∈ TBL) (h4 : Cond.code y bytes maxL ret ∈ TBL) (hrc : rm.cells = mc) (hrs : rm.slots = ms)
    (hd : y.cls ≠ "java/lang/invoke/MethodHandle" ∧ y.cls ≠ "java/lang/invoke/VarHandle" ∧ (parseMethodDescriptor y.desc).map (fun d => d.parameters.length) = some n) (hR : rm.frames + 1 ≤ R.frames ∧ 8 + (maxL + 11) + rm.locals ≤ R.locals) :
    CallB R s args own index y bytes maxL ret (Cond.code y bytes maxL ret :: TBL) rm mc ms n := callB_of n hT (tG h4) rfl hrc hrs (hT _ h3) (hT _ h1) hd hR
theorem tS (n : Nat) (hT : ∀ w ∈ TBL, w.before args s = true) (h1 : Cond.methodLink own index y ∈ TBL) (h2 : Cond.static y ∈ TBL) (h3 : Cond.initialized y.cls ∈ TBL) (h4 : Cond.code y bytes maxL ret ∈ TBL) (hrc : rm.cells = mc) (hrs : rm.slots = ms)
    (hd : y.cls ≠ "java/lang/invoke/MethodHandle" ∧ y.cls ≠ "java/lang/invoke/VarHandle" ∧ (parseMethodDescriptor y.desc).map (fun d => d.parameters.length) = some n) (hR : rm.frames + 1 ≤ R.frames ∧ 8 + (maxL + 11) + rm.locals ≤ R.locals) :
    CallB R s args own index y bytes maxL ret (Cond.code y bytes maxL ret :: TBL) rm mc ms n ∧ (Cond.static y).before args s = true := ⟨tB n hT h1 h3 h4 hrc hrs hd hR, hT _ h2⟩
theorem tV (n : Nat) (hT : ∀ w ∈ TBL, w.before args s = true) (h1 : Cond.methodLink own index y ∈ TBL) (h2 : Cond.instanceMethod y ∈ TBL) (h5 : Cond.selects C y y ∈ TBL) (h3 : Cond.initialized y.cls ∈ TBL) (h4 : Cond.code y bytes maxL ret ∈ TBL) (hrc : rm.cells = mc) (hrs : rm.slots = ms)
    (hd : y.cls ≠ "java/lang/invoke/MethodHandle" ∧ y.cls ≠ "java/lang/invoke/VarHandle" ∧ (parseMethodDescriptor y.desc).map (fun d => d.parameters.length) = some n) (hR : rm.frames + 1 ≤ R.frames ∧ 8 + (maxL + 11) + rm.locals ≤ R.locals) :
    CallW R s args own C index y bytes maxL ret (Cond.code y bytes maxL ret :: TBL) rm mc ms n := ⟨tB n hT h1 h3 h4 hrc hrs hd hR, hT _ h2, hT _ h5⟩
theorem tI (n : Nat) (hT : ∀ w ∈ TBL, w.before args s = true) (h1 : Cond.methodLink own index y ∈ TBL) (h2 : Cond.instanceMethod y ∈ TBL) (h3 : Cond.initialized y.cls ∈ TBL) (h4 : Cond.code y bytes maxL none ∈ TBL) (hy : y.name = "<init>") (hrc : rm.cells = mc) (hrs : rm.slots = ms)
    (hd : y.cls ≠ "java/lang/invoke/MethodHandle" ∧ y.cls ≠ "java/lang/invoke/VarHandle" ∧ (parseMethodDescriptor y.desc).map (fun d => d.parameters.length) = some n) (hR : rm.frames + 1 ≤ R.frames ∧ 8 + (maxL + 11) + rm.locals ≤ R.locals) :
    CallB R s args own index y bytes maxL none (Cond.code y bytes maxL none :: TBL) rm mc ms n ∧ y.name = "<init>" ∧ (Cond.instanceMethod y).before args s = true := ⟨tB n hT h1 h3 h4 hrc hrs hd hR, hy, hT _ h2⟩
end CALLS
theorem nar_b {x : Int32} (h : x = 0 ∨ x = 1) : narrow .boolean (.int x) = .int x := by rcases h with rfl | rfl <;> rfl
theorem fit_b {x : Int32} (h : x = 0 ∨ x = 1) : fits .boolean (.int x) = true := by rcases h with rfl | rfl <;> rfl
def rLen (i : Nat) : Nat := match i with
  | 1 => 72
  | 2 => 4
  | 3 => 8
  | 4 => 89
  | 5 => 89
  | 6 => 100
  | 7 => 600
  | 8 => 6
  | 9 => 60
  | 10 => 60
  | 11 => 60
  | 12 => 6
  | 13 => 6
  | 14 => 6
  | 15 => 6
  | 16 => 6
  | 17 => 20
  | 18 => 6
  | 19 => 6
  | 20 => 360
  | 21 => 60
  | 22 => 6
  | _ => 0
def rTy (i : Nat) : Nat := match i with
  | 14 => 3
  | 15 => 3
  | 16 => 3
  | 20 => 1
  | 21 => 1
  | 22 => 3
  | _ => 0
def cR0 (ad : Nat → Nat) (S : FS) : List Value := [.ref (ad 1), .int (fF S 0 1), .int (fF S 0 2), .int (fF S 0 3), .ref (ad 2), .int (fF S 0 5), .ref (ad 3), .int (fF S 0 7), .int (fF S 0 8), .ref (ad 4), .ref (ad 5), .int (fF S 0 11), .int (fF S 0 12), .int (fF S 0 13), va_rf ((fR S 0 14).map ad), .int (fF S 0 15), .ref (ad 6), .int (fF S 0 17), .ref (ad 7), .ref (ad 8), .int (fF S 0 20), .ref (ad 9), .ref (ad 10), .ref (ad 11), .ref (ad 12), .int (fF S 0 25), .int (fF S 0 26), .ref (ad 13), .int (fF S 0 28), .int (fF S 0 29), .ref (ad 14), .ref (ad 15), .ref (ad 16), .int (fF S 0 33), .int (fF S 0 34), .int (fF S 0 35), .int (fF S 0 36), .int (fF S 0 37), .int (fF S 0 38), .ref (ad 17), .int (fF S 0 40), .int (fF S 0 41), .int (fF S 0 42), .int (fF S 0 43), .ref (ad 18), .ref (ad 19), .ref (ad 20), .ref (ad 21), .ref (ad 22)]
def cR (G : GG) (ad : Nat → Nat) (S : FS) (i : Nat) : va_E := if i = 0 then .inr (14, cR0 ad S) else match rTy i with
  | 1 => .inl (G.2.1 1, rLen i, .inr (.inl (fL S i)))
  | t => .inl (G.2.1 t, rLen i, .inl (fA S i))
def wR (G : GG) (ad : Nat → Nat) (S : FS) : va_W := ix 23 ad (cR G ad S)
theorem cR_0 (G : GG) (ad : Nat → Nat) (S : FS) : cR G ad S 0 = .inr (14, cR0 ad S) := rfl
theorem cR_ne (G : GG) (ad : Nat → Nat) {S S' : FS} {j : Nat} (h : j ≠ 0) (hA : fA S' j = fA S j) (hL : fL S' j = fL S j) : cR G ad S' j = cR G ad S j := by
  unfold cR
  rw [if_neg h, if_neg h, hA, hL]
theorem cR_s (G : GG) (ad : Nat → Nat) (S : FS) : cR G ad S 1 = .inl (G.2.1 0, 72, .inl (fA S 1)) := rfl
theorem cR_seen (G : GG) (ad : Nat → Nat) (S : FS) : cR G ad S 2 = .inl (G.2.1 0, 4, .inl (fA S 2)) := rfl
theorem cR_come (G : GG) (ad : Nat → Nat) (S : FS) : cR G ad S 3 = .inl (G.2.1 0, 8, .inl (fA S 3)) := rfl
theorem cR_text (G : GG) (ad : Nat → Nat) (S : FS) : cR G ad S 6 = .inl (G.2.1 0, 100, .inl (fA S 6)) := rfl
theorem cR_texts (G : GG) (ad : Nat → Nat) (S : FS) : cR G ad S 7 = .inl (G.2.1 0, 600, .inl (fA S 7)) := rfl
theorem cR_sizes (G : GG) (ad : Nat → Nat) (S : FS) : cR G ad S 8 = .inl (G.2.1 0, 6, .inl (fA S 8)) := rfl
theorem cR_clauseWhat (G : GG) (ad : Nat → Nat) (S : FS) : cR G ad S 9 = .inl (G.2.1 0, 60, .inl (fA S 9)) := rfl
theorem cR_clauseN (G : GG) (ad : Nat → Nat) (S : FS) : cR G ad S 10 = .inl (G.2.1 0, 60, .inl (fA S 10)) := rfl
theorem cR_clauseAt (G : GG) (ad : Nat → Nat) (S : FS) : cR G ad S 11 = .inl (G.2.1 0, 60, .inl (fA S 11)) := rfl
theorem cR_clauses (G : GG) (ad : Nat → Nat) (S : FS) : cR G ad S 12 = .inl (G.2.1 0, 6, .inl (fA S 12)) := rfl
theorem cR_nots (G : GG) (ad : Nat → Nat) (S : FS) : cR G ad S 13 = .inl (G.2.1 0, 6, .inl (fA S 13)) := rfl
theorem cR_ors (G : GG) (ad : Nat → Nat) (S : FS) : cR G ad S 14 = .inl (G.2.1 3, 6, .inl (fA S 14)) := rfl
theorem cR_ands (G : GG) (ad : Nat → Nat) (S : FS) : cR G ad S 15 = .inl (G.2.1 3, 6, .inl (fA S 15)) := rfl
theorem cR_turns (G : GG) (ad : Nat → Nat) (S : FS) : cR G ad S 16 = .inl (G.2.1 3, 6, .inl (fA S 16)) := rfl
theorem cR_trail (G : GG) (ad : Nat → Nat) (S : FS) : cR G ad S 17 = .inl (G.2.1 0, 20, .inl (fA S 17)) := rfl
theorem cR_sortOf (G : GG) (ad : Nat → Nat) (S : FS) : cR G ad S 18 = .inl (G.2.1 0, 6, .inl (fA S 18)) := rfl
theorem cR_manyOf (G : GG) (ad : Nat → Nat) (S : FS) : cR G ad S 19 = .inl (G.2.1 0, 6, .inl (fA S 19)) := rfl
theorem cR_items (G : GG) (ad : Nat → Nat) (S : FS) : cR G ad S 20 = .inl (G.2.1 1, 360, .inr (.inl (fL S 20))) := rfl
theorem cR_copies (G : GG) (ad : Nat → Nat) (S : FS) : cR G ad S 21 = .inl (G.2.1 1, 60, .inr (.inl (fL S 21))) := rfl
theorem cR_holdsRow (G : GG) (ad : Nat → Nat) (S : FS) : cR G ad S 22 = .inl (G.2.1 3, 6, .inl (fA S 22)) := rfl
theorem pR_customers (G : GG) (ad : Nat → Nat) (S : FS) (x : Int32) : (wR G ad S).set 0 (ad 0, .inr (14, (cR0 ad S).set 1 (.int x))) = wR G ad (setF S 0 1 x) := ix_put (by decide) (fun j => by
  by_cases h : j = 0
  · subst h
    rfl
  · rw [va_up_ne _ _ h]
    exact (cR_ne G ad (S := S) (S' := setF S 0 1 x) h rfl rfl).symm)
theorem pR_off (G : GG) (ad : Nat → Nat) (S : FS) (x : Int32) : (wR G ad S).set 0 (ad 0, .inr (14, (cR0 ad S).set 2 (.int x))) = wR G ad (setF S 0 2 x) := ix_put (by decide) (fun j => by
  by_cases h : j = 0
  · subst h
    rfl
  · rw [va_up_ne _ _ h]
    exact (cR_ne G ad (S := S) (S' := setF S 0 2 x) h rfl rfl).symm)
theorem pR_holding (G : GG) (ad : Nat → Nat) (S : FS) (x : Int32) : (wR G ad S).set 0 (ad 0, .inr (14, (cR0 ad S).set 3 (.int x))) = wR G ad (setF S 0 3 x) := ix_put (by decide) (fun j => by
  by_cases h : j = 0
  · subst h
    rfl
  · rw [va_up_ne _ _ h]
    exact (cR_ne G ad (S := S) (S' := setF S 0 3 x) h rfl rfl).symm)
theorem pR_seenMany (G : GG) (ad : Nat → Nat) (S : FS) (x : Int32) : (wR G ad S).set 0 (ad 0, .inr (14, (cR0 ad S).set 5 (.int x))) = wR G ad (setF S 0 5 x) := ix_put (by decide) (fun j => by
  by_cases h : j = 0
  · subst h
    rfl
  · rw [va_up_ne _ _ h]
    exact (cR_ne G ad (S := S) (S' := setF S 0 5 x) h rfl rfl).symm)
theorem pR_comeMany (G : GG) (ad : Nat → Nat) (S : FS) (x : Int32) : (wR G ad S).set 0 (ad 0, .inr (14, (cR0 ad S).set 7 (.int x))) = wR G ad (setF S 0 7 x) := ix_put (by decide) (fun j => by
  by_cases h : j = 0
  · subst h
    rfl
  · rw [va_up_ne _ _ h]
    exact (cR_ne G ad (S := S) (S' := setF S 0 7 x) h rfl rfl).symm)
theorem pR_thrown (G : GG) (ad : Nat → Nat) (S : FS) (x : Int32) : (wR G ad S).set 0 (ad 0, .inr (14, (cR0 ad S).set 8 (.int x))) = wR G ad (setF S 0 8 x) := ix_put (by decide) (fun j => by
  by_cases h : j = 0
  · subst h
    rfl
  · rw [va_up_ne _ _ h]
    exact (cR_ne G ad (S := S) (S' := setF S 0 8 x) h rfl rfl).symm)
theorem pR_hasImage (G : GG) (ad : Nat → Nat) (S : FS) (x : Int32) : (wR G ad S).set 0 (ad 0, .inr (14, (cR0 ad S).set 11 (.int x))) = wR G ad (setF S 0 11 x) := ix_put (by decide) (fun j => by
  by_cases h : j = 0
  · subst h
    rfl
  · rw [va_up_ne _ _ h]
    exact (cR_ne G ad (S := S) (S' := setF S 0 11 x) h rfl rfl).symm)
theorem pR_place0 (G : GG) (ad : Nat → Nat) (S : FS) (x : Int32) : (wR G ad S).set 0 (ad 0, .inr (14, (cR0 ad S).set 12 (.int x))) = wR G ad (setF S 0 12 x) := ix_put (by decide) (fun j => by
  by_cases h : j = 0
  · subst h
    rfl
  · rw [va_up_ne _ _ h]
    exact (cR_ne G ad (S := S) (S' := setF S 0 12 x) h rfl rfl).symm)
theorem pR_isTaking (G : GG) (ad : Nat → Nat) (S : FS) (x : Int32) : (wR G ad S).set 0 (ad 0, .inr (14, (cR0 ad S).set 13 (.int x))) = wR G ad (setF S 0 13 x) := ix_put (by decide) (fun j => by
  by_cases h : j = 0
  · subst h
    rfl
  · rw [va_up_ne _ _ h]
    exact (cR_ne G ad (S := S) (S' := setF S 0 13 x) h rfl rfl).symm)
theorem pR_isMind (G : GG) (ad : Nat → Nat) (S : FS) (x : Int32) : (wR G ad S).set 0 (ad 0, .inr (14, (cR0 ad S).set 15 (.int x))) = wR G ad (setF S 0 15 x) := ix_put (by decide) (fun j => by
  by_cases h : j = 0
  · subst h
    rfl
  · rw [va_up_ne _ _ h]
    exact (cR_ne G ad (S := S) (S' := setF S 0 15 x) h rfl rfl).symm)
theorem pR_size (G : GG) (ad : Nat → Nat) (S : FS) (x : Int32) : (wR G ad S).set 0 (ad 0, .inr (14, (cR0 ad S).set 17 (.int x))) = wR G ad (setF S 0 17 x) := ix_put (by decide) (fun j => by
  by_cases h : j = 0
  · subst h
    rfl
  · rw [va_up_ne _ _ h]
    exact (cR_ne G ad (S := S) (S' := setF S 0 17 x) h rfl rfl).symm)
theorem pR_counters (G : GG) (ad : Nat → Nat) (S : FS) (x : Int32) : (wR G ad S).set 0 (ad 0, .inr (14, (cR0 ad S).set 20 (.int x))) = wR G ad (setF S 0 20 x) := ix_put (by decide) (fun j => by
  by_cases h : j = 0
  · subst h
    rfl
  · rw [va_up_ne _ _ h]
    exact (cR_ne G ad (S := S) (S' := setF S 0 20 x) h rfl rfl).symm)
theorem pR_at (G : GG) (ad : Nat → Nat) (S : FS) (x : Int32) : (wR G ad S).set 0 (ad 0, .inr (14, (cR0 ad S).set 25 (.int x))) = wR G ad (setF S 0 25 x) := ix_put (by decide) (fun j => by
  by_cases h : j = 0
  · subst h
    rfl
  · rw [va_up_ne _ _ h]
    exact (cR_ne G ad (S := S) (S' := setF S 0 25 x) h rfl rfl).symm)
theorem pR_isBad (G : GG) (ad : Nat → Nat) (S : FS) (x : Int32) : (wR G ad S).set 0 (ad 0, .inr (14, (cR0 ad S).set 26 (.int x))) = wR G ad (setF S 0 26 x) := ix_put (by decide) (fun j => by
  by_cases h : j = 0
  · subst h
    rfl
  · rw [va_up_ne _ _ h]
    exact (cR_ne G ad (S := S) (S' := setF S 0 26 x) h rfl rfl).symm)
theorem pR_depth (G : GG) (ad : Nat → Nat) (S : FS) (x : Int32) : (wR G ad S).set 0 (ad 0, .inr (14, (cR0 ad S).set 28 (.int x))) = wR G ad (setF S 0 28 x) := ix_put (by decide) (fun j => by
  by_cases h : j = 0
  · subst h
    rfl
  · rw [va_up_ne _ _ h]
    exact (cR_ne G ad (S := S) (S' := setF S 0 28 x) h rfl rfl).symm)
theorem pR_opened (G : GG) (ad : Nat → Nat) (S : FS) (x : Int32) : (wR G ad S).set 0 (ad 0, .inr (14, (cR0 ad S).set 29 (.int x))) = wR G ad (setF S 0 29 x) := ix_put (by decide) (fun j => by
  by_cases h : j = 0
  · subst h
    rfl
  · rw [va_up_ne _ _ h]
    exact (cR_ne G ad (S := S) (S' := setF S 0 29 x) h rfl rfl).symm)
theorem pR_bought (G : GG) (ad : Nat → Nat) (S : FS) (x : Int32) : (wR G ad S).set 0 (ad 0, .inr (14, (cR0 ad S).set 33 (.int x))) = wR G ad (setF S 0 33 x) := ix_put (by decide) (fun j => by
  by_cases h : j = 0
  · subst h
    rfl
  · rw [va_up_ne _ _ h]
    exact (cR_ne G ad (S := S) (S' := setF S 0 33 x) h rfl rfl).symm)
theorem pR_askedFor (G : GG) (ad : Nat → Nat) (S : FS) (x : Int32) : (wR G ad S).set 0 (ad 0, .inr (14, (cR0 ad S).set 34 (.int x))) = wR G ad (setF S 0 34 x) := ix_put (by decide) (fun j => by
  by_cases h : j = 0
  · subst h
    rfl
  · rw [va_up_ne _ _ h]
    exact (cR_ne G ad (S := S) (S' := setF S 0 34 x) h rfl rfl).symm)
theorem pR_cut (G : GG) (ad : Nat → Nat) (S : FS) (x : Int32) : (wR G ad S).set 0 (ad 0, .inr (14, (cR0 ad S).set 35 (.int x))) = wR G ad (setF S 0 35 x) := ix_put (by decide) (fun j => by
  by_cases h : j = 0
  · subst h
    rfl
  · rw [va_up_ne _ _ h]
    exact (cR_ne G ad (S := S) (S' := setF S 0 35 x) h rfl rfl).symm)
theorem pR_boughtSum (G : GG) (ad : Nat → Nat) (S : FS) (x : Int32) : (wR G ad S).set 0 (ad 0, .inr (14, (cR0 ad S).set 36 (.int x))) = wR G ad (setF S 0 36 x) := ix_put (by decide) (fun j => by
  by_cases h : j = 0
  · subst h
    rfl
  · rw [va_up_ne _ _ h]
    exact (cR_ne G ad (S := S) (S' := setF S 0 36 x) h rfl rfl).symm)
theorem pR_askedSum (G : GG) (ad : Nat → Nat) (S : FS) (x : Int32) : (wR G ad S).set 0 (ad 0, .inr (14, (cR0 ad S).set 37 (.int x))) = wR G ad (setF S 0 37 x) := ix_put (by decide) (fun j => by
  by_cases h : j = 0
  · subst h
    rfl
  · rw [va_up_ne _ _ h]
    exact (cR_ne G ad (S := S) (S' := setF S 0 37 x) h rfl rfl).symm)
theorem pR_visitSum (G : GG) (ad : Nat → Nat) (S : FS) (x : Int32) : (wR G ad S).set 0 (ad 0, .inr (14, (cR0 ad S).set 38 (.int x))) = wR G ad (setF S 0 38 x) := ix_put (by decide) (fun j => by
  by_cases h : j = 0
  · subst h
    rfl
  · rw [va_up_ne _ _ h]
    exact (cR_ne G ad (S := S) (S' := setF S 0 38 x) h rfl rfl).symm)
theorem pR_trailed (G : GG) (ad : Nat → Nat) (S : FS) (x : Int32) : (wR G ad S).set 0 (ad 0, .inr (14, (cR0 ad S).set 40 (.int x))) = wR G ad (setF S 0 40 x) := ix_put (by decide) (fun j => by
  by_cases h : j = 0
  · subst h
    rfl
  · rw [va_up_ne _ _ h]
    exact (cR_ne G ad (S := S) (S' := setF S 0 40 x) h rfl rfl).symm)
theorem pR_kind0 (G : GG) (ad : Nat → Nat) (S : FS) (x : Int32) : (wR G ad S).set 0 (ad 0, .inr (14, (cR0 ad S).set 41 (.int x))) = wR G ad (setF S 0 41 x) := ix_put (by decide) (fun j => by
  by_cases h : j = 0
  · subst h
    rfl
  · rw [va_up_ne _ _ h]
    exact (cR_ne G ad (S := S) (S' := setF S 0 41 x) h rfl rfl).symm)
theorem pR_v0 (G : GG) (ad : Nat → Nat) (S : FS) (x : Int32) : (wR G ad S).set 0 (ad 0, .inr (14, (cR0 ad S).set 42 (.int x))) = wR G ad (setF S 0 42 x) := ix_put (by decide) (fun j => by
  by_cases h : j = 0
  · subst h
    rfl
  · rw [va_up_ne _ _ h]
    exact (cR_ne G ad (S := S) (S' := setF S 0 42 x) h rfl rfl).symm)
theorem pR_i0 (G : GG) (ad : Nat → Nat) (S : FS) (x : Int32) : (wR G ad S).set 0 (ad 0, .inr (14, (cR0 ad S).set 43 (.int x))) = wR G ad (setF S 0 43 x) := ix_put (by decide) (fun j => by
  by_cases h : j = 0
  · subst h
    rfl
  · rw [va_up_ne _ _ h]
    exact (cR_ne G ad (S := S) (S' := setF S 0 43 x) h rfl rfl).symm)
theorem pR_keptIn (G : GG) (ad : Nat → Nat) (S : FS) (x : Nat) : (wR G ad S).set 0 (ad 0, .inr (14, (cR0 ad S).set 14 (.ref (ad x)))) = wR G ad (setR S 0 14 (some x)) := ix_put (by decide) (fun j => by
  by_cases h : j = 0
  · subst h
    rfl
  · rw [va_up_ne _ _ h]
    exact (cR_ne G ad (S := S) (S' := setR S 0 14 (some x)) h rfl rfl).symm)
theorem pR_A (G : GG) (ad : Nat → Nat) (S : FS) {i t n : Nat} {f0 : Nat → Int32} (h0 : i ≠ 0) (hi : i < 23) (ht : rTy i ≠ 1) (hc : cR G ad S i = .inl (G.2.1 t, n, .inl f0)) (f : Nat → Int32) : (wR G ad S).set i (ad i, .inl (G.2.1 t, n, .inl f)) = wR G ad (setA S i f) := ix_put hi (fun j => by
  by_cases h : j = i
  · subst h
    rw [va_up_self]
    unfold cR at hc ⊢
    rw [if_neg h0] at hc ⊢
    split at hc
    · rename_i h1
      exact absurd h1 ht
    · injection hc with hc
      injection hc with e1 e2
      injection e2 with e2 e3
      rw [← e1, ← e2, fA_setA, if_pos rfl]
  · rw [va_up_ne _ _ h]
    by_cases h2 : j = 0
    · subst h2
      rfl
    · exact (cR_ne G ad (S := S) (S' := setA S i f) h2 (by rw [fA_setA, if_neg h]) rfl).symm)
theorem pR_L (G : GG) (ad : Nat → Nat) (S : FS) {i n : Nat} {f0 : Nat → Int64} (h0 : i ≠ 0) (hi : i < 23) (hc : cR G ad S i = .inl (G.2.1 1, n, .inr (.inl f0))) (f : Nat → Int64) : (wR G ad S).set i (ad i, .inl (G.2.1 1, n, .inr (.inl f))) = wR G ad (setL S i f) := ix_put hi (fun j => by
  by_cases h : j = i
  · subst h
    rw [va_up_self]
    unfold cR at hc ⊢
    rw [if_neg h0] at hc ⊢
    split at hc
    · injection hc with hc
      injection hc with e1 e2
      injection e2 with e2 e3
      rw [← e2, fL_setL, if_pos rfl]
    · injection hc with hc
      injection hc with e1 e2
      injection e2 with e2 e3
      injection e3
  · rw [va_up_ne _ _ h]
    by_cases h2 : j = 0
    · subst h2
      rfl
    · exact (cR_ne G ad (S := S) (S' := setL S i f) h2 rfl (by rw [fL_setL, if_neg h])).symm)
