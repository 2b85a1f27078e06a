/-! THE CLAIM OUT OF ONE WALK OF THE LAW'S BODY. Your part is whole_start (and what it stands on); all else here is the same for every law, but numbers. -/
def R_law : String := "LittleMoreLaw"
def lw_P (b : Addr) (xs : List Int32) (args : Array Value) (s : State) : Prop := args = #[.ref b] ∧ s.IntsAt b xs ∧ xs.length ≤ 3072 ∧ (Jvm.Cond.and given_1 narrow_1).before args s = true
def lw_Q (_ : Array Value) (s : State) (o : Outcome) (t : State) : Prop := o = .returned (some (.int 1)) ∧ Framed s o t [] 600000 7302250
def lw_Z (below : List Frame) (a : Array Value) (s : State) : State → Prop := fun t => ∃ o, t.status = .running ∧ Ended t below o ∧ lw_Q a s o t
/-- the law's own end, with 1 on the stack, nothing written that was there before, its room as the claim has it -/
theorem lw_ret {p : Program} {l : Launch} {e : Env} {s : State} {m : MethodId} {below : List Frame} {meth : Method} {c : Code} {b : Nat} (hx : p.tables.exec = Jvm.exec) (hb : c.code = code) (hr : meth.sig.returnType = ret) (hlocks : meth.locks = false) {pc : Nat} {H : Heap} {ls : Array Slot} (hdg : decode code pc = .ok (.ireturn, 1)) : W p l e room_1 s m #[Value.ref b] below meth c H [] 600000 7302250 (lw_Z below #[Value.ref b] s) (F0 m pc ls [.int 1]) := by
  intro T hT X
  obtain ⟨fs, hret, hrun, hended, hW, hframe⟩ := X.leave (v := some (.int 1)) (hlocks := hlocks) (fun h => by rw [hr] at h; cases h)
  have hmeth' : T.vm.method? m = some meth := X.method'
  refine ⟨T.setFrames fs, ?_, .returned (some (.int 1)), hrun, hended, rfl, ⟨_, rfl⟩, hW, hframe⟩
  jvm_step X.here [X.here.top, hx, hb, hdg, hmeth', hr, ret, narrow_b1]
  (try refine ⟨rfl, ?_⟩); (try refine ⟨rfl, ?_⟩)
  first | (intro acts; rw [hret _ acts rfl rfl rfl]) | rw [hret _ _ rfl rfl rfl]
  exact Steps.refl _
/-- what holds at the law's entry: the machine, the code, the tables' words (any of lw_tbl by 'hts w (by decide +kernel)'), the script of L ints xs at the cell b, what the Statement gives of the start (any of its parts by flat_of_before) -/
def lw_At (p : Program) (s : State) (m : MethodId) (meth : Method) (c : Code) (b L : Nat) (xs : Nat → Int32) : Prop :=
  p.tables.exec = Jvm.exec ∧ c.code = code ∧ meth.sig.returnType = ret ∧ c.maxLocals = 4 ∧ s.vm.findClass R_law = some m.cls ∧ (∀ w ∈ lw_tbl, w.before #[Value.ref b] s = true) ∧ va_X b L xs s s.heap ∧ b < s.heap.size ∧ meth.locks = false ∧ (Jvm.Cond.and given_1 narrow_1).before #[Value.ref b] s = true
/-- what the law may write: what it has made -/
def AL (s : State) : Nat → Prop := fun q => s.heap.size ≤ q
/-- the two worlds side by side -/
def LV (G : GG) (s : State) (H : Heap) (locs : List Loc) (aX aR : Nat → Nat) (SX SR : FS) : Prop := va_S (AL s) s.heap H locs ∧ va_P G.1 vwCl (wX G aX SX) H ∧ va_D (AL s) (wX G aX SX) ∧ va_P G.1 vwCl (wR G aR SR) H ∧ va_D (AL s) (wR G aR SR) ∧ ∀ i j, i < 71 + fC SX → j < 23 → aX i ≠ aR j
theorem at_X {G : GG} {ad : Nat → Nat} {S : FS} {k : Nat} {q : Nat × va_E} (h : (wX G ad S)[k]? = some q) : k < 71 + fC S ∧ q.1 = ad k := ⟨(ix_some h).1, by rw [(ix_some h).2]⟩
theorem at_R {G : GG} {ad : Nat → Nat} {S : FS} {k : Nat} {q : Nat × va_E} (h : (wR G ad S)[k]? = some q) : k < 23 ∧ q.1 = ad k := ⟨(ix_some h).1, by rw [(ix_some h).2]⟩
section KEEP
variable {G : GG} {H H1 : Heap} {aX aR a1 : Nat → Nat} {SX SR S1 : FS}
theorem lt_X (h : va_P G.1 vwCl (wX G aX SX) H) {i : Nat} (hi : i < 71 + fC SX) : aX i < H.size := (h i _ (ix_get hi)).lt
theorem lt_R (h : va_P G.1 vwCl (wR G aR SR) H) {i : Nat} (hi : i < 23) : aR i < H.size := (h i _ (ix_get hi)).lt
theorem kept_R (h : va_P G.1 vwCl (wR G aR SR) H) (hd : ∀ i j, i < 71 + fC SX → j < 23 → aX i ≠ aR j) (hk : ∀ q : Nat, q < H.size → ¬ va_A (wX G aX SX) H.size q → H1[q]? = H[q]?) : va_P G.1 vwCl (wR G aR SR) H1 :=
  h.kept (fun k q hq => by
    obtain ⟨h1, h2⟩ := at_R hq
    have h3 : q.1 < H.size := h2 ▸ lt_R h h1
    refine hk _ h3 (fun z => ?_)
    rcases z with ⟨i, e, he⟩ | z
    · obtain ⟨g1, g2⟩ := at_X he
      exact hd i k g1 h1 (g2.symm.trans h2)
    · omega)
theorem kept_X (h : va_P G.1 vwCl (wX G aX SX) H) (hd : ∀ i j, i < 71 + fC SX → j < 23 → aX i ≠ aR j) (hk : ∀ q : Nat, q < H.size → ¬ va_A (wR G aR SR) H.size q → H1[q]? = H[q]?) : va_P G.1 vwCl (wX G aX SX) H1 :=
  h.kept (fun k q hq => by
    obtain ⟨h1, h2⟩ := at_X hq
    have h3 : q.1 < H.size := h2 ▸ lt_X h h1
    refine hk _ h3 (fun z => ?_)
    rcases z with ⟨i, e, he⟩ | z
    · obtain ⟨g1, g2⟩ := at_R he
      exact hd k i h1 g1 (h2.symm.trans g2)
    · omega)
theorem dis_X (h : va_P G.1 vwCl (wR G aR SR) H) (hd : ∀ i j, i < 71 + fC SX → j < 23 → aX i ≠ aR j) (hD : va_D (va_A (wX G aX SX) H.size) (wX G a1 S1)) : ∀ i j, i < 71 + fC S1 → j < 23 → a1 i ≠ aR j := fun i j hi hj e => by
  have h3 := lt_R h hj
  rcases hD.2 i _ (ix_get hi) with ⟨k, c, hc⟩ | z
  · obtain ⟨g1, g2⟩ := at_X hc
    exact hd k j g1 hj (g2.symm.trans e)
  · have z : H.size ≤ a1 i := z
    omega
end KEEP
section LCALL
variable {p : Program} {l : Launch} {e : Env} {R : Room} {s : State} {m : MethodId} {args as' : Array Value} {below : List Frame} {meth : Method} {c : Code} {H : Heap} {locs : List Loc} {cells slots mc ms : Nat} {Q : State → Prop}
variable {pc : Nat} {ls : Array Slot} {st0 rest : List Value} {G : GG} {aX aR : Nat → Nat} {SX SR : FS}
theorem lx_i {post : Int32 → FS → Prop} (hV : LV G s H locs aX aR SX SR) (hr : va_Run p l e R s m args below meth c H locs cells slots mc ms (F0 m pc ls st0) rest (va_Qi post (fun S' t => BW G (va_A (wX G aX SX) H.size) (wX G aX S') t) (va_A (wX G aX SX) H.size) as') (va_A (wX G aX SX) H.size))
    (kk : ∀ (r : Int32) (S' : FS) (H1 : Heap) (locs1 : List Loc), post r S' → LV G s H1 locs1 aX aR S' SR → W p l e R s m args below meth c H1 locs1 (cells + mc) (slots + ms) Q (F0 m (pc + 3) ls (.int r :: rest))) : W p l e R s m args below meth c H locs cells slots Q (F0 m pc ls st0) := by
  obtain ⟨hS, hPX, hDX, hPR, hDR, hd⟩ := hV
  have hF := va_self hDX hS (fun q h => h)
  refine va_calli hr hS (fun q _ h => hF q h) hF (fun r S' t H1 locs1 ht _ hw hB _ hk hS1 => ?_)
  obtain ⟨hP1, -, hD1⟩ := hB
  rw [ht] at hP1
  exact kk r S' H1 locs1 hw ⟨hS1, hP1, hD1.weaken (fun k q _ h => hF q.1 h), kept_R hPR hd hk, hDR, dis_X hPR hd hD1⟩
theorem lx_l {post : Int64 → FS → Prop} (hV : LV G s H locs aX aR SX SR) (hr : va_Run p l e R s m args below meth c H locs cells slots mc ms (F0 m pc ls st0) rest (va_Ql post (fun S' t => BW G (va_A (wX G aX SX) H.size) (wX G aX S') t) (va_A (wX G aX SX) H.size) as') (va_A (wX G aX SX) H.size))
    (kk : ∀ (r : Int64) (S' : FS) (H1 : Heap) (locs1 : List Loc), post r S' → LV G s H1 locs1 aX aR S' SR → W p l e R s m args below meth c H1 locs1 (cells + mc) (slots + ms) Q (F0 m (pc + 3) ls (.long r :: rest))) : W p l e R s m args below meth c H locs cells slots Q (F0 m pc ls st0) := by
  obtain ⟨hS, hPX, hDX, hPR, hDR, hd⟩ := hV
  have hF := va_self hDX hS (fun q h => h)
  refine va_calll hr hS (fun q _ h => hF q h) hF (fun r S' t H1 locs1 ht _ hw hB _ hk hS1 => ?_)
  obtain ⟨hP1, -, hD1⟩ := hB
  rw [ht] at hP1
  exact kk r S' H1 locs1 hw ⟨hS1, hP1, hD1.weaken (fun k q _ h => hF q.1 h), kept_R hPR hd hk, hDR, dis_X hPR hd hD1⟩
theorem lx_g {post : Int32 → FS × (Nat → Nat) → Prop} (hV : LV G s H locs aX aR SX SR) (hr : va_Run p l e R s m args below meth c H locs cells slots mc ms (F0 m pc ls st0) rest (va_Qi post (fun u t => BW G (va_A (wX G aX SX) H.size) (wX G u.2 u.1) t) (va_A (wX G aX SX) H.size) as') (va_A (wX G aX SX) H.size))
    (kk : ∀ (r : Int32) (S' : FS) (a1 : Nat → Nat) (H1 : Heap) (locs1 : List Loc), post r (S', a1) → LV G s H1 locs1 a1 aR S' SR → W p l e R s m args below meth c H1 locs1 (cells + mc) (slots + ms) Q (F0 m (pc + 3) ls (.int r :: rest))) : W p l e R s m args below meth c H locs cells slots Q (F0 m pc ls st0) := by
  obtain ⟨hS, hPX, hDX, hPR, hDR, hd⟩ := hV
  have hF := va_self hDX hS (fun q h => h)
  refine va_calli hr hS (fun q _ h => hF q h) hF (fun r u t H1 locs1 ht _ hw hB _ hk hS1 => ?_)
  obtain ⟨S', a1⟩ := u
  obtain ⟨hP1, -, hD1⟩ := hB
  rw [ht] at hP1
  exact kk r S' a1 H1 locs1 hw ⟨hS1, hP1, hD1.weaken (fun k q _ h => hF q.1 h), kept_R hPR hd hk, hDR, dis_X hPR hd hD1⟩
theorem lr_i {post : Int32 → FS → Prop} (hV : LV G s H locs aX aR SX SR) (hr : va_Run p l e R s m args below meth c H locs cells slots mc ms (F0 m pc ls st0) rest (va_Qi post (fun S' t => BW G (va_A (wR G aR SR) H.size) (wR G aR S') t) (va_A (wR G aR SR) H.size) as') (va_A (wR G aR SR) H.size))
    (kk : ∀ (r : Int32) (S' : FS) (H1 : Heap) (locs1 : List Loc), post r S' → LV G s H1 locs1 aX aR SX S' → W p l e R s m args below meth c H1 locs1 (cells + mc) (slots + ms) Q (F0 m (pc + 3) ls (.int r :: rest))) : W p l e R s m args below meth c H locs cells slots Q (F0 m pc ls st0) := by
  obtain ⟨hS, hPX, hDX, hPR, hDR, hd⟩ := hV
  have hF := va_self hDR hS (fun q h => h)
  refine va_calli hr hS (fun q _ h => hF q h) hF (fun r S' t H1 locs1 ht _ hw hB _ hk hS1 => ?_)
  obtain ⟨hP1, -, hD1⟩ := hB
  rw [ht] at hP1
  exact kk r S' H1 locs1 hw ⟨hS1, kept_X hPX hd hk, hDX, hP1, hD1.weaken (fun k q _ h => hF q.1 h), hd⟩
theorem lr_l {post : Int64 → FS → Prop} (hV : LV G s H locs aX aR SX SR) (hr : va_Run p l e R s m args below meth c H locs cells slots mc ms (F0 m pc ls st0) rest (va_Ql post (fun S' t => BW G (va_A (wR G aR SR) H.size) (wR G aR S') t) (va_A (wR G aR SR) H.size) as') (va_A (wR G aR SR) H.size))
    (kk : ∀ (r : Int64) (S' : FS) (H1 : Heap) (locs1 : List Loc), post r S' → LV G s H1 locs1 aX aR SX S' → W p l e R s m args below meth c H1 locs1 (cells + mc) (slots + ms) Q (F0 m (pc + 3) ls (.long r :: rest))) : W p l e R s m args below meth c H locs cells slots Q (F0 m pc ls st0) := by
  obtain ⟨hS, hPX, hDX, hPR, hDR, hd⟩ := hV
  have hF := va_self hDR hS (fun q h => h)
  refine va_calll hr hS (fun q _ h => hF q h) hF (fun r S' t H1 locs1 ht _ hw hB _ hk hS1 => ?_)
  obtain ⟨hP1, -, hD1⟩ := hB
  rw [ht] at hP1
  exact kk r S' H1 locs1 hw ⟨hS1, kept_X hPX hd hk, hDX, hP1, hD1.weaken (fun k q _ h => hF q.1 h), hd⟩
end LCALL
/-- the two sides at one -/
def LK (SX SR : FS) : Prop := fF SX 9 3 = fF SR 0 1 ∧ (fF SX 0 10 = 0 ↔ fF SR 0 11 = 0) ∧ (¬ fF SX 0 10 = 0 → fF SX 10 3 = fA SR 5 0)
def XK (S S' : FS) : Prop := fF S' 9 3 = fF S 9 3 ∧ fF S' 0 10 = fF S 0 10 ∧ fF S' 10 3 = fF S 10 3
theorem lk_step {SX SR SX' SR' : FS} (h : LK SX SR) (x : XK SX SX') (r : RK SR SR') : LK SX' SR' :=
  ⟨x.1.trans (h.1.trans r.1.symm), by rw [x.2.1, r.2.1]; exact h.2.1, fun q => by rw [x.2.1] at q; rw [x.2.2, r.2.2]; exact h.2.2 q⟩
theorem xk_fr {P : Nat → Nat → Prop} {S S' : FS} (h : Fr P S S') (n1 : ¬ P 9 3) (n2 : ¬ P 0 10) (n3 : ¬ P 10 3) : XK S S' := ⟨h.F (lt71 (by omega)) n1, h.F (lt71 (by omega)) n2, h.F (lt71 (by omega)) n3⟩
theorem xk_rf {S : FS} : XK S S := ⟨rfl, rfl, rfl⟩
theorem not_or2 {x : Int32} {a b : Int32} : ¬ (x < a ∨ b < x) ↔ (a ≤ x ∧ x ≤ b) := ⟨fun h => ⟨Int32.not_lt.mp (fun q => h (Or.inl q)), Int32.not_lt.mp (fun q => h (Or.inr q))⟩, fun h q => q.elim (fun q => Int32.not_lt.mpr h.1 q) (fun q => Int32.not_lt.mpr h.2 q)⟩
theorem not_an2 {x : Int32} {a b : Int32} (h : x < a ∨ b < x) : ¬ (a ≤ x ∧ x ≤ b) := fun q => not_or2.mpr q h
/-- customer() answers alike -/
theorem lk_cust {n : Nat} {kd v w r r' : Int32} {SX SX' SR SR' : FS} {P : Nat → Nat → Prop} (hn : fF SX (9 + 0) 3 = nI n) (hn6 : n ≤ 6) (h : LK SX SR) (hC : CuP n kd v w r SX SX') (hF : Fr P SX SX') (n2 : ¬ P 0 10) (n3 : ¬ P 10 3)
    (e1 : r' = (if 0 ≤ kd ∧ kd ≤ 6 then if 0 ≤ v ∧ v ≤ 9 then if 10 ≤ w ∧ w ≤ 99 then if fF SR 0 1 = 6 then -4 else fF SR 0 1 else -2 else -2 else -1)) {n' : Nat} (hn' : fF SR 0 1 = nI n') (hn6' : n' ≤ 6)
    (e2 : SR' = (if 0 ≤ kd ∧ kd ≤ 6 then if 0 ≤ v ∧ v ≤ 9 then if 10 ≤ w ∧ w ≤ 99 then if fF SR 0 1 = 6 then (setF SR 0 8 0) else setF (setA (setF SR 0 8 0) 1 (cs (fA SR 1) n' kd v w)) 0 1 (nI (n' + 1)) else (setF SR 0 8 0) else (setF SR 0 8 0) else (setF SR 0 8 0))) (k1 : fF SR' 0 11 = fF SR 0 11) (k2 : fA SR' 5 0 = fA SR 5 0) : r = r' ∧ LK SX' SR' := by
  have en : n' = n := (nI_eq (by omega) (by omega)).mp (hn'.symm.trans (h.1.symm.trans hn))
  subst en
  have hx2 := hF.F (j := 0) (k := 10) (lt71 (by omega)) n2
  have hx3 := hF.F (j := 10) (k := 3) (lt71 (by omega)) n3
  have hL : fF SX' 9 3 = fF SR' 0 1 → LK SX' SR' := fun q => ⟨q, by rw [hx2, k1]; exact h.2.1, fun z => by rw [hx2] at z; rw [hx3, k2]; exact h.2.2 z⟩
  rcases hC with ⟨a, b, c⟩ | ⟨a, a2, b, c⟩ | ⟨a, a2, a3, a4, b, c⟩ | ⟨a, a2, a3, a4, b, c, -⟩
  · rw [if_neg (not_an2 a)] at e1 e2
    exact ⟨b.trans e1.symm, hL (by rw [c, e2]; exact h.1)⟩
  · rw [if_pos (not_or2.mp a)] at e1 e2
    by_cases q : v < 0 ∨ 9 < v
    · rw [if_neg (not_an2 q)] at e1 e2
      exact ⟨b.trans e1.symm, hL (by rw [c, e2]; exact h.1)⟩
    · rw [if_pos (not_or2.mp q), if_neg (not_an2 (a2.resolve_left q))] at e1 e2
      exact ⟨b.trans e1.symm, hL (by rw [c, e2]; exact h.1)⟩
  · rw [if_pos (not_or2.mp a), if_pos (not_or2.mp a2), if_pos (not_or2.mp a3), if_pos (by rw [hn', a4]; rfl)] at e1 e2
    exact ⟨b.trans e1.symm, hL (by rw [c, e2]; exact h.1)⟩
  · have q : ¬ fF SR 0 1 = 6 := fun z => by
      rw [hn'] at z
      have := (nI_eq (a := n') (b := 6) (by omega) (by omega)).mp z
      omega
    rw [if_pos (not_or2.mp a), if_pos (not_or2.mp a2), if_pos (not_or2.mp a3), if_neg q] at e1 e2
    exact ⟨by rw [b, e1, hn'], hL (by rw [e2, fF_setF, if_pos ⟨rfl, rfl⟩]; exact c)⟩
theorem lk_image {n : Nat} {SX SX' SR SR' : FS} {P : Nat → Nat → Prop} (h : LK SX SR) (hF : Fr P SX SX') (n1 : ¬ P 9 3) (hB : fF SX' 0 10 = 1 ∧ BE SX 1 0 n SX') (k : fF SR' 0 1 = fF SR 0 1 ∧ fF SR' 0 11 = 1 ∧ fA SR' 5 0 = fF SR 0 1) : LK SX' SR' := by
  have hx := hF.F (j := 9) (k := 3) (lt71 (by omega)) n1
  refine ⟨by rw [hx, k.1]; exact h.1, ⟨fun q => ?_, fun q => ?_⟩, fun _ => ?_⟩
  · rw [hB.1] at q
    exact absurd q (by decide)
  · rw [k.2.1] at q
    exact absurd q (by decide)
  · rw [k.2.2, ← h.1]
    exact hB.2.1 3 (by omega) (by omega)
theorem lk_undo {mz : Nat} {SX SX' SR SR' : FS} {P : Nat → Nat → Prop} (h : LK SX SR) (hF : Fr P SX SX') (n2 : ¬ P 0 10) (n3 : ¬ P 10 3) (hB : BE SX 0 1 mz SX') (hi : ¬ fF SX 0 10 = 0) (k : fF SR' 0 1 = fA SR 5 0 ∧ fF SR' 0 11 = fF SR 0 11 ∧ fA SR' 5 0 = fA SR 5 0) : LK SX' SR' := by
  have hx2 := hF.F (j := 0) (k := 10) (lt71 (by omega)) n2
  have hx3 := hF.F (j := 10) (k := 3) (lt71 (by omega)) n3
  refine ⟨?_, by rw [hx2, k.2.1]; exact h.2.1, fun _ => by rw [hx3, k.2.2]; exact h.2.2 hi⟩
  rw [k.1, ← h.2.2 hi]
  exact hB.1 3 (by omega) (by omega)
theorem act_len (a k : Int32) : (if a = 0 then aB k else if a = 1 then bB k else tlB k).length ≤ 12 := by
  split
  · have := aB_len k
    omega
  · split
    · have := bB_len k
      omega
    · exact tlB_len k
