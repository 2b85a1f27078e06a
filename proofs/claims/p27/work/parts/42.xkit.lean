theorem ci_lt {a b : Nat} (ha : a < 2 ^ 31) (hb : b < 2 ^ 31) (h : nI a < nI b) : a < b := by
  by_cases q : a < b
  · exact q
  · exact absurd h (Int32.not_lt.mpr ((nI_leI hb ha).mpr (by omega)))
theorem ci_nlt {a b : Nat} (ha : a < 2 ^ 31) (hb : b < 2 ^ 31) (h : ¬ nI a < nI b) : b ≤ a := (nI_leI hb ha).mp (Int32.not_lt.mp h)
theorem ci_le {a b : Nat} (ha : a < 2 ^ 31) (hb : b < 2 ^ 31) (h : nI a ≤ nI b) : a ≤ b := (nI_leI ha hb).mp h
theorem ci_nle {a b : Nat} (ha : a < 2 ^ 31) (hb : b < 2 ^ 31) (h : ¬ nI a ≤ nI b) : b < a := Nat.lt_of_not_le (fun q => h ((nI_leI ha hb).mpr q))
theorem kq7 {q : Nat} (h : q < 7) : q = 0 ∨ q = 1 ∨ q = 2 ∨ q = 3 ∨ q = 4 ∨ q = 5 ∨ q = 6 := by omega
theorem kcl_at {q : Nat} (h : q < 7) : ∃ r : vw_C, vwCl[kcl q]? = some r := by
  rcases kq7 h with rfl | rfl | rfl | rfl | rfl | rfl | rfl <;> exact ⟨_, rfl⟩
section XKIT
variable {R : Room} {s : State} {args : Array Value} {own C owner : String} {index maxL mc ms : Nat} {x y : MethodName} {bytes : ByteArray} {ret : Option FieldType} {rm : Room}
/-- a virtual call of a method that another class writes anew -/
theorem tO (n : Nat) (hT : ∀ w ∈ TBL, w.before args s = true) (h1 : Cond.methodLink own index x ∈ TBL) (h2 : Cond.sameMethod x.cls owner x.name x.desc ∈ TBL) (h7 : Cond.instanceMethod ⟨owner, x.name, x.desc⟩ ∈ TBL) (h5 : Cond.selects C x y ∈ TBL) (h6 : Cond.instanceMethod y ∈ TBL) (h3 : Cond.initialized y.cls ∈ TBL) (h4 : Cond.code y bytes maxL ret ∈ TBL)
    {b0 : ByteArray} {m0 : Nat} {r0 : Option FieldType} (h0 : Cond.code ⟨owner, x.name, x.desc⟩ b0 m0 r0 ∈ TBL) (hrc : rm.cells = mc) (hrs : rm.slots = ms)
    (hd : owner ≠ "java/lang/invoke/MethodHandle" ∧ owner ≠ "java/lang/invoke/VarHandle" ∧ (parseMethodDescriptor x.desc).map (fun d => d.parameters.length) = some n) (hR : rm.frames + 1 ≤ R.frames ∧ 8 + (maxL + 11) + rm.locals ≤ R.locals) :
    va_CU R s args own C owner index x y bytes maxL ret (Cond.code y bytes maxL ret :: TBL) rm mc ms n :=
  va_cwO n hT (tbl_goodIn (fun w h => by
    unfold va_wsO at h
    rcases List.mem_append.mp h with h | h
    · simp only [List.mem_cons, List.not_mem_nil, or_false] at h
      rcases h with rfl | rfl | rfl | rfl | rfl | rfl <;> assumption
    · exact (List.mem_cons.mp h).elim (fun e => e ▸ h4) id) (fun _ h => h)) rfl hrc hrs h0 hd hR
end XKIT
section ROWSB
variable {p : Program} {l : Launch} {e : Env} {R : Room} {s : State} {m : MethodId} {args : Array Value} {below : List Frame} {meth : Method} {c : Code} {H : Heap} {locs : List Loc} {cells slots : Nat} {Q : State → Prop}
variable {cc : ByteArray} {pc : Nat} {ls : Array Slot} {rest : List Value} {D : va_G} {cl : List vw_C} {A : Nat → Prop} {a : Nat} {tys : List (ClassId × FieldType)} {ws : va_W} {H0 : Heap} {g : JFrame}
theorem r_bast (hexec : p.tables.exec = Jvm.exec) (hb : c.code = cc) (hK : va_K D cl tys s) (hP : va_P D cl ws H) (hD : va_D A ws) (hS : va_S A H0 H locs) (q0 t0 : Nat) {cA : ClassId} {n : Nat} {f : Nat → Int32} (ha : ws[q0]? = some (a, .inl (cA, n, .inl f))) (ht : tys[t0]? = some (cA, .byte)) {i : Int32} {x : Int32} (j : Nat) (hij : i = nI j) (hj : j < n) (hn : n < 2 ^ 31) (hdg : decode cc pc = .ok (.bastore, 1))
    (kk : ∀ (H1 : Heap) (locs1 : List Loc), va_P D cl (ws.set q0 (a, .inl (cA, n, .inl (upd f j (vp_nar .byte x))))) H1 → va_D A (ws.set q0 (a, .inl (cA, n, .inl (upd f j (vp_nar .byte x))))) → va_S A H0 H1 locs1 → W p l e R s m args below meth c H1 locs1 cells slots Q (F0 m (pc + 1) ls rest)) : W p l e R s m args below meth c H locs cells slots Q (F0 m pc ls (.int x :: .int i :: .ref a :: rest)) := by
  subst hij
  refine va_bast hexec hb hK hP hD hS q0 t0 ha ht (vp_in_nI hj hn) hdg (fun H1 locs1 a b c => ?_)
  rw [nI_clamp (by omega)] at a b
  exact kk H1 locs1 a b c
end ROWSB
/-- the class of the kind of that number, by name -/
def kn (q : Nat) : String := match q with | 0 => "LittleMore$Kind" | 1 => "LittleMore$Strict" | 2 => "LittleMore$Gentle" | 3 => "LittleMore$Child" | 4 => "LittleMore$Counting" | 5 => "LittleMore$Leaving" | _ => "LittleMore$Told"
/-- is the kind of number q one of number k? -/
def isK (q k : Nat) : Bool := q == k || k == 0 || (q == 4 && k == 1) || (q == 5 && k == 2) || (q == 6 && k == 3)
def lenS : List Nat := [4, 4, 5, 5, 6, 3]
def bytS : List (List Int32) := [[109, 111, 114, 101], [108, 101, 115, 115], [112, 114, 105, 99, 101], [108, 101, 97, 114, 110], [99, 107, 116, 111, 110, 100], [60, 61, 62]]
def ixS (i : Nat) : Nat := match i with | 0 => 87 | 1 => 89 | 2 => 91 | 3 => 92 | 4 => 107 | _ => 112
def txS (i : Nat) : String := match i with | 0 => "more" | 1 => "less" | 2 => "price" | 3 => "learn" | 4 => "cktond" | _ => "<=>"
/-- which casts go and which don't -/
def KC (mi : Nat) (U : State) : Prop := (∀ q k, q < 7 → k < 7 → 0 < k → q ≠ k → isK q k = true → va_Nw (.castable (kn q) (kn k)) U) ∧ (∀ q k, q < 7 → k < 7 → 0 < k → isK q k = false → va_Nc (kn q) (kn k) U) ∧ va_Nw (.castable "java/lang/Integer" "java/lang/Object") U ∧ va_Nw (.castable "[I" "java/lang/Cloneable") U ∧ va_AO "java/lang/Object" U ∧ va_Mi "[Ljava/lang/Object;" mi U ∧ va_Dc U
theorem KC.warm {mi : Nat} {s U : State} (hW : s.WarmedH U.vm) (h : KC mi s) : KC mi U := ⟨fun q k a b c d e => (h.1 q k a b c d e).warmC hW, fun q k a b c d => (h.2.1 q k a b c d).moved hW.alike, h.2.2.1.warmC hW, h.2.2.2.1.warmC hW, h.2.2.2.2.1.moved hW.alike, h.2.2.2.2.2.1.moved hW.alike, h.2.2.2.2.2.2.moved hW.alike⟩
theorem KC.same {mi : Nat} {s U : State} (hv : s.vm = U.vm) (h : KC mi s) : KC mi U := ⟨fun q k a b c d e => (h.1 q k a b c d e).same rfl hv, fun q k a b c d => (h.2.1 q k a b c d).moved (by rw [hv]; exact Vm.Alike.refl _), h.2.2.1.same rfl hv, h.2.2.2.1.same rfl hv, h.2.2.2.2.1.moved (by rw [hv]; exact Vm.Alike.refl _), h.2.2.2.2.2.1.moved (by rw [hv]; exact Vm.Alike.refl _), h.2.2.2.2.2.2.moved (by rw [hv]; exact Vm.Alike.refl _)⟩
/-- what lies outside the class's world and stays: the empty row, Integer's cache (300 its row, below 256 its boxes), the texts (310 .., their rows 320 ..) -/
def EN (G : GG) (A : Nat → Prop) (U : State) (H : Heap) : Prop :=
  (va_Z "java/util/ArrayList" "DEFAULTCAPACITY_EMPTY_ELEMENTDATA" "[Ljava/lang/Object;" (.ref G.2.2.1) A U H ∧ va_T (.object "java/lang/Object") G.2.2.1 0 (fun _ => .null) A U H) ∧
  va_Z "java/lang/String" "COMPACT_STRINGS" "Z" (.int 1) A U H ∧
  va_Zq "jdk/internal/util/Preconditions" "SIOOBE_FORMATTER" "Ljava/util/function/BiFunction;" A U H ∧
  (va_Z "java/lang/Integer$IntegerCache" "high" "I" (.int 127) A U H ∧ va_Z "java/lang/Integer$IntegerCache" "cache" "[Ljava/lang/Integer;" (.ref (G.2.2.2 300)) A U H ∧ va_T (.object "java/lang/Integer") (G.2.2.2 300) 256 (fun j => .ref (G.2.2.2 j)) A U H ∧ vb_C G.2.2.2 A U H) ∧
  (vk_S 6 lenS bytS (fun i => G.2.2.2 (310 + i)) (fun i => G.2.2.2 (320 + i)) A U H ∧ ∀ i, i < 6 → vk_R "LittleMore$Text" (ixS i) (txS i) (G.2.2.2 (310 + i)) U) ∧ KC (G.2.2.2 330) U
theorem EN.call {G : GG} {A A1 : Nat → Prop} {s U : State} {H : Heap} {locs : List Loc} (h : EN G A s s.heap) (hS : va_S A s.heap H locs) (hA : ∀ q, A1 q → A q) (hU : U.heap = H) (hW : s.WarmedH U.vm) : EN G A1 U U.heap := by
  subst hU
  have hk : ∀ a : Nat, a < s.heap.size → ¬ A a → U.heap[a]? = s.heap[a]? := hS.2.1
  obtain ⟨⟨h1, h2⟩, h3, h4, ⟨h5, h6, h7, h8⟩, ⟨h9, h10⟩, h11⟩ := h
  exact ⟨⟨((h1.kept hk).narrow hA).moved hW.alike, ((h2.kept hk).narrow hA).moved hW.alike⟩, ((h3.kept hk).narrow hA).moved hW.alike, ((h4.kept hk).narrow hA).moved hW.alike, ⟨((h5.kept hk).narrow hA).moved hW.alike, ((h6.kept hk).narrow hA).moved hW.alike, ((h7.kept hk).narrow hA).moved hW.alike, ((h8.kept hk).narrow hA).moved hW.alike⟩, ⟨((h9.kept hk).narrow hA).moved hW.alike, fun i hi => (h10 i hi).warm hW⟩, h11.warm hW⟩
/-- a method's start where it reads what lies outside -/
def PcE (G : GG) (w : va_W) (sz : Nat) (as : List Value) : Array Value → State → Prop := va_Pc as (fun U => U.heap.size = sz ∧ va_P G.1 vwCl w U.heap ∧ va_K G.1 vwCl (TYS G) U ∧ va_D (fun _ => True) w ∧ EN G (va_A w sz) U U.heap)
theorem PcE_blind {G : GG} {w : va_W} {sz : Nat} {as : List Value} : FrameBlind (PcE G w sz as) := fun a U g mk q => by
  obtain ⟨q0, q1, q2, q3, q4, ⟨⟨h1, h2⟩, h3, h4, ⟨h5, h6, h7, h8⟩, ⟨h9, h10⟩, h11⟩⟩ := q
  have hv : U.vm.Alike (U.calling g mk a).vm := Vm.Alike.refl U.vm
  exact ⟨q0, q1, q2, va_K.moved hv q3, q4, ⟨h1.moved hv, h2.moved hv⟩, h3.moved hv, h4.moved hv, ⟨h5.moved hv, h6.moved hv, h7.moved hv, h8.moved hv⟩, ⟨h9.moved hv, fun i hi => (h10 i hi).same rfl⟩, h11.same rfl⟩
theorem PcE_of {G : GG} {w : va_W} {A A0 : Nat → Prop} {H : Heap} {s : State} {locs : List Loc} (hP : va_P G.1 vwCl w H) (hK : va_K G.1 vwCl (TYS G) s) (hD : va_D A0 w) (hE : EN G A s s.heap) (hS : va_S A s.heap H locs) (hA : ∀ q, va_A w H.size q → A q) (as : List Value) : ∀ U : State, U.heap = H → s.WarmedH U.vm → PcE G w H.size as as.toArray U := fun U hU hW => ⟨rfl, by rw [hU], by rw [hU]; exact hP, va_K.moved hW.alike hK, hD.weaken (fun _ _ _ _ => trivial), hE.call hS hA hU hW⟩
