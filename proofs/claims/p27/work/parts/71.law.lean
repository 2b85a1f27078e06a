/-! THE CLAIM OUT OF ONE WALK OF THE LAW'S BODY. Your part is whole_start (and what it stands on); all else here is the same for every law, but numbers. -/
def R_law : String := "LittleMoreLaw"
def lw_P (b : Addr) (xs : List Int32) (args : Array Value) (s : State) : Prop := args = #[.ref b] ∧ s.IntsAt b xs ∧ xs.length ≤ 3072 ∧ (Jvm.Cond.and given_1 narrow_1).before args s = true
def lw_Q (_ : Array Value) (s : State) (o : Outcome) (t : State) : Prop := o = .returned (some (.int 1)) ∧ Framed s o t [] 600000 7302250
def lw_Z (below : List Frame) (a : Array Value) (s : State) : State → Prop := fun t => ∃ o, t.status = .running ∧ Ended t below o ∧ lw_Q a s o t
/-- the law's own end, with 1 on the stack, nothing written that was there before, its room as the claim has it -/
theorem lw_ret {p : Program} {l : Launch} {e : Env} {s : State} {m : MethodId} {below : List Frame} {meth : Method} {c : Code} {b : Nat} (hx : p.tables.exec = Jvm.exec) (hb : c.code = code) (hr : meth.sig.returnType = ret) (hlocks : meth.locks = false) {pc : Nat} {H : Heap} {ls : Array Slot} (hdg : decode code pc = .ok (.ireturn, 1)) : W p l e room_1 s m #[Value.ref b] below meth c H [] 600000 7302250 (lw_Z below #[Value.ref b] s) (F0 m pc ls [.int 1]) := by
  intro T hT X
  obtain ⟨fs, hret, hrun, hended, hW, hframe⟩ := X.leave (v := some (.int 1)) (hlocks := hlocks) (fun h => by rw [hr] at h; cases h)
  have hmeth' : T.vm.method? m = some meth := X.method'
  refine ⟨T.setFrames fs, ?_, .returned (some (.int 1)), hrun, hended, rfl, ⟨_, rfl⟩, hW, hframe⟩
  jvm_step X.here [X.here.top, hx, hb, hdg, hmeth', hr, ret, narrow_b1]
  (try refine ⟨rfl, ?_⟩); (try refine ⟨rfl, ?_⟩)
  first | (intro acts; rw [hret _ acts rfl rfl rfl]) | rw [hret _ _ rfl rfl rfl]
  exact Steps.refl _
/-- what holds at the law's entry: the machine, the code, the tables' words (any of lw_tbl by 'hts w (by decide +kernel)'), the script of L ints xs at the cell b, what the Statement gives of the start (any of its parts by flat_of_before) -/
def lw_At (p : Program) (s : State) (m : MethodId) (meth : Method) (c : Code) (b L : Nat) (xs : Nat → Int32) : Prop :=
  p.tables.exec = Jvm.exec ∧ c.code = code ∧ meth.sig.returnType = ret ∧ c.maxLocals = 4 ∧ s.vm.findClass R_law = some m.cls ∧ (∀ w ∈ lw_tbl, w.before #[Value.ref b] s = true) ∧ va_X b L xs s s.heap ∧ b < s.heap.size ∧ meth.locks = false ∧ (Jvm.Cond.and given_1 narrow_1).before #[Value.ref b] s = true
/-- what the law may write: what it has made -/
def AL (s : State) : Nat → Prop := fun q => s.heap.size ≤ q
/-- the two worlds side by side -/
def LV (G : GG) (s : State) (H : Heap) (locs : List Loc) (aX aR : Nat → Nat) (SX SR : FS) : Prop := va_S (AL s) s.heap H locs ∧ va_P G.1 vwCl (wX G aX SX) H ∧ va_D (AL s) (wX G aX SX) ∧ va_P G.1 vwCl (wR G aR SR) H ∧ va_D (AL s) (wR G aR SR) ∧ ∀ i j, i < 71 + fC SX → j < 23 → aX i ≠ aR j
theorem at_X {G : GG} {ad : Nat → Nat} {S : FS} {k : Nat} {q : Nat × va_E} (h : (wX G ad S)[k]? = some q) : k < 71 + fC S ∧ q.1 = ad k := ⟨(ix_some h).1, by rw [(ix_some h).2]⟩
theorem at_R {G : GG} {ad : Nat → Nat} {S : FS} {k : Nat} {q : Nat × va_E} (h : (wR G ad S)[k]? = some q) : k < 23 ∧ q.1 = ad k := ⟨(ix_some h).1, by rw [(ix_some h).2]⟩
section KEEP
variable {G : GG} {H H1 : Heap} {aX aR a1 : Nat → Nat} {SX SR S1 : FS}
theorem lt_X (h : va_P G.1 vwCl (wX G aX SX) H) {i : Nat} (hi : i < 71 + fC SX) : aX i < H.size := (h i _ (ix_get hi)).lt
theorem lt_R (h : va_P G.1 vwCl (wR G aR SR) H) {i : Nat} (hi : i < 23) : aR i < H.size := (h i _ (ix_get hi)).lt
theorem kept_R (h : va_P G.1 vwCl (wR G aR SR) H) (hd : ∀ i j, i < 71 + fC SX → j < 23 → aX i ≠ aR j) (hk : ∀ q : Nat, q < H.size → ¬ va_A (wX G aX SX) H.size q → H1[q]? = H[q]?) : va_P G.1 vwCl (wR G aR SR) H1 :=
  h.kept (fun k q hq => by
    obtain ⟨h1, h2⟩ := at_R hq
    have h3 : q.1 < H.size := h2 ▸ lt_R h h1
    refine hk _ h3 (fun z => ?_)
    rcases z with ⟨i, e, he⟩ | z
    · obtain ⟨g1, g2⟩ := at_X he
      exact hd i k g1 h1 (g2.symm.trans h2)
    · omega)
theorem kept_X (h : va_P G.1 vwCl (wX G aX SX) H) (hd : ∀ i j, i < 71 + fC SX → j < 23 → aX i ≠ aR j) (hk : ∀ q : Nat, q < H.size → ¬ va_A (wR G aR SR) H.size q → H1[q]? = H[q]?) : va_P G.1 vwCl (wX G aX SX) H1 :=
  h.kept (fun k q hq => by
    obtain ⟨h1, h2⟩ := at_X hq
    have h3 : q.1 < H.size := h2 ▸ lt_X h h1
    refine hk _ h3 (fun z => ?_)
    rcases z with ⟨i, e, he⟩ | z
    · obtain ⟨g1, g2⟩ := at_R he
      exact hd k i h1 g1 (h2.symm.trans g2)
    · omega)
theorem dis_X (h : va_P G.1 vwCl (wR G aR SR) H) (hd : ∀ i j, i < 71 + fC SX → j < 23 → aX i ≠ aR j) (hD : va_D (va_A (wX G aX SX) H.size) (wX G a1 S1)) : ∀ i j, i < 71 + fC S1 → j < 23 → a1 i ≠ aR j := fun i j hi hj e => by
  have h3 := lt_R h hj
  rcases hD.2 i _ (ix_get hi) with ⟨k, c, hc⟩ | z
  · obtain ⟨g1, g2⟩ := at_X hc
    exact hd k j g1 hj (g2.symm.trans e)
  · have z : H.size ≤ a1 i := z
    omega
end KEEP
section LCALL
variable {p : Program} {l : Launch} {e : Env} {R : Room} {s : State} {m : MethodId} {args as' : Array Value} {below : List Frame} {meth : Method} {c : Code} {H : Heap} {locs : List Loc} {cells slots mc ms : Nat} {Q : State → Prop}
variable {pc : Nat} {ls : Array Slot} {st0 rest : List Value} {G : GG} {aX aR : Nat → Nat} {SX SR : FS}
theorem lx_i {post : Int32 → FS → Prop} (hV : LV G s H locs aX aR SX SR) (hr : va_Run p l e R s m args below meth c H locs cells slots mc ms (F0 m pc ls st0) rest (va_Qi post (fun S' t => BW G (va_A (wX G aX SX) H.size) (wX G aX S') t) (va_A (wX G aX SX) H.size) as') (va_A (wX G aX SX) H.size))
    (kk : ∀ (r : Int32) (S' : FS) (H1 : Heap) (locs1 : List Loc), post r S' → LV G s H1 locs1 aX aR S' SR → W p l e R s m args below meth c H1 locs1 (cells + mc) (slots + ms) Q (F0 m (pc + 3) ls (.int r :: rest))) : W p l e R s m args below meth c H locs cells slots Q (F0 m pc ls st0) := by
  obtain ⟨hS, hPX, hDX, hPR, hDR, hd⟩ := hV
  have hF := va_self hDX hS (fun q h => h)
  refine va_calli hr hS (fun q _ h => hF q h) hF (fun r S' t H1 locs1 ht _ hw hB _ hk hS1 => ?_)
  obtain ⟨hP1, -, hD1⟩ := hB
  rw [ht] at hP1
  exact kk r S' H1 locs1 hw ⟨hS1, hP1, hD1.weaken (fun k q _ h => hF q.1 h), kept_R hPR hd hk, hDR, dis_X hPR hd hD1⟩
theorem lx_l {post : Int64 → FS → Prop} (hV : LV G s H locs aX aR SX SR) (hr : va_Run p l e R s m args below meth c H locs cells slots mc ms (F0 m pc ls st0) rest (va_Ql post (fun S' t => BW G (va_A (wX G aX SX) H.size) (wX G aX S') t) (va_A (wX G aX SX) H.size) as') (va_A (wX G aX SX) H.size))
    (kk : ∀ (r : Int64) (S' : FS) (H1 : Heap) (locs1 : List Loc), post r S' → LV G s H1 locs1 aX aR S' SR → W p l e R s m args below meth c H1 locs1 (cells + mc) (slots + ms) Q (F0 m (pc + 3) ls (.long r :: rest))) : W p l e R s m args below meth c H locs cells slots Q (F0 m pc ls st0) := by
  obtain ⟨hS, hPX, hDX, hPR, hDR, hd⟩ := hV
  have hF := va_self hDX hS (fun q h => h)
  refine va_calll hr hS (fun q _ h => hF q h) hF (fun r S' t H1 locs1 ht _ hw hB _ hk hS1 => ?_)
  obtain ⟨hP1, -, hD1⟩ := hB
  rw [ht] at hP1
  exact kk r S' H1 locs1 hw ⟨hS1, hP1, hD1.weaken (fun k q _ h => hF q.1 h), kept_R hPR hd hk, hDR, dis_X hPR hd hD1⟩
theorem lx_g {post : Int32 → FS × (Nat → Nat) → Prop} (hV : LV G s H locs aX aR SX SR) (hr : va_Run p l e R s m args below meth c H locs cells slots mc ms (F0 m pc ls st0) rest (va_Qi post (fun u t => BW G (va_A (wX G aX SX) H.size) (wX G u.2 u.1) t) (va_A (wX G aX SX) H.size) as') (va_A (wX G aX SX) H.size))
    (kk : ∀ (r : Int32) (S' : FS) (a1 : Nat → Nat) (H1 : Heap) (locs1 : List Loc), post r (S', a1) → LV G s H1 locs1 a1 aR S' SR → W p l e R s m args below meth c H1 locs1 (cells + mc) (slots + ms) Q (F0 m (pc + 3) ls (.int r :: rest))) : W p l e R s m args below meth c H locs cells slots Q (F0 m pc ls st0) := by
  obtain ⟨hS, hPX, hDX, hPR, hDR, hd⟩ := hV
  have hF := va_self hDX hS (fun q h => h)
  refine va_calli hr hS (fun q _ h => hF q h) hF (fun r u t H1 locs1 ht _ hw hB _ hk hS1 => ?_)
  obtain ⟨S', a1⟩ := u
  obtain ⟨hP1, -, hD1⟩ := hB
  rw [ht] at hP1
  exact kk r S' a1 H1 locs1 hw ⟨hS1, hP1, hD1.weaken (fun k q _ h => hF q.1 h), kept_R hPR hd hk, hDR, dis_X hPR hd hD1⟩
theorem lr_i {post : Int32 → FS → Prop} (hV : LV G s H locs aX aR SX SR) (hr : va_Run p l e R s m args below meth c H locs cells slots mc ms (F0 m pc ls st0) rest (va_Qi post (fun S' t => BW G (va_A (wR G aR SR) H.size) (wR G aR S') t) (va_A (wR G aR SR) H.size) as') (va_A (wR G aR SR) H.size))
    (kk : ∀ (r : Int32) (S' : FS) (H1 : Heap) (locs1 : List Loc), post r S' → LV G s H1 locs1 aX aR SX S' → W p l e R s m args below meth c H1 locs1 (cells + mc) (slots + ms) Q (F0 m (pc + 3) ls (.int r :: rest))) : W p l e R s m args below meth c H locs cells slots Q (F0 m pc ls st0) := by
  obtain ⟨hS, hPX, hDX, hPR, hDR, hd⟩ := hV
  have hF := va_self hDR hS (fun q h => h)
  refine va_calli hr hS (fun q _ h => hF q h) hF (fun r S' t H1 locs1 ht _ hw hB _ hk hS1 => ?_)
  obtain ⟨hP1, -, hD1⟩ := hB
  rw [ht] at hP1
  exact kk r S' H1 locs1 hw ⟨hS1, kept_X hPX hd hk, hDX, hP1, hD1.weaken (fun k q _ h => hF q.1 h), hd⟩
theorem lr_l {post : Int64 → FS → Prop} (hV : LV G s H locs aX aR SX SR) (hr : va_Run p l e R s m args below meth c H locs cells slots mc ms (F0 m pc ls st0) rest (va_Ql post (fun S' t => BW G (va_A (wR G aR SR) H.size) (wR G aR S') t) (va_A (wR G aR SR) H.size) as') (va_A (wR G aR SR) H.size))
    (kk : ∀ (r : Int64) (S' : FS) (H1 : Heap) (locs1 : List Loc), post r S' → LV G s H1 locs1 aX aR SX S' → W p l e R s m args below meth c H1 locs1 (cells + mc) (slots + ms) Q (F0 m (pc + 3) ls (.long r :: rest))) : W p l e R s m args below meth c H locs cells slots Q (F0 m pc ls st0) := by
  obtain ⟨hS, hPX, hDX, hPR, hDR, hd⟩ := hV
  have hF := va_self hDR hS (fun q h => h)
  refine va_calll hr hS (fun q _ h => hF q h) hF (fun r S' t H1 locs1 ht _ hw hB _ hk hS1 => ?_)
  obtain ⟨hP1, -, hD1⟩ := hB
  rw [ht] at hP1
  exact kk r S' H1 locs1 hw ⟨hS1, kept_X hPX hd hk, hDX, hP1, hD1.weaken (fun k q _ h => hF q.1 h), hd⟩
end LCALL
/-- the same number's places on the two sides: 3 how many customers, 4 seen, 5 booked, 6 off -/
def fk (k : Nat) : Nat := match k with | 3 => 1 | 4 => 5 | 5 => 7 | _ => 2
def vk (k : Nat) : Nat := match k with | 3 => 0 | 4 => 3 | 5 => 4 | _ => 1
theorem k36 {k : Nat} (h1 : 3 ≤ k) (h2 : k ≤ 6) : k = 3 ∨ k = 4 ∨ k = 5 ∨ k = 6 := by omega
theorem vk_fk (S : FS) {k : Nat} (h1 : 3 ≤ k) (h2 : k ≤ 6) : vec S (vk k) = fF S 0 (fk k) := by
  rcases k36 h1 h2 with rfl | rfl | rfl | rfl <;> rfl
theorem vk_lt (k : Nat) : vk k < 89 := by
  unfold vk
  split <;> omega
/-- the two sides at one -/
def LK (SX SR : FS) : Prop := (∀ k, 3 ≤ k → k ≤ 6 → fF SX 9 k = fF SR 0 (fk k)) ∧ (fF SX 0 10 = 0 ↔ fF SR 0 11 = 0) ∧ (¬ fF SX 0 10 = 0 → ∀ k, 3 ≤ k → k ≤ 6 → fF SX 10 k = fA SR 5 (vk k))
def XK (e : Nat) (S S' : FS) : Prop := (∀ k, 3 ≤ k → k ≤ 6 → k ≠ e → fF S' 9 k = fF S 9 k) ∧ fF S' 0 10 = fF S 0 10 ∧ ∀ k, 3 ≤ k → k ≤ 6 → fF S' 10 k = fF S 10 k
theorem lk_e {SX SR SX' SR' : FS} (e : Nat) (h3 : 3 ≤ e ∧ e ≤ 6) (h : LK SX SR) (x : XK e SX SX') (r : RK (fk e) SR SR') (q : fF SX' 9 e = fF SR' 0 (fk e)) : LK SX' SR' := by
  refine ⟨fun k h1 h2 => ?_, by rw [x.2.1, r.2.1]; exact h.2.1, fun z k h1 h2 => ?_⟩
  · by_cases c : k = e
    · rw [c]
      exact q
    · by_cases c2 : fk k = fk e
      · exfalso
        rcases k36 h1 h2 with rfl | rfl | rfl | rfl <;> rcases k36 h3.1 h3.2 with rfl | rfl | rfl | rfl <;> first | exact c rfl | exact absurd c2 (by decide)
      · rw [x.1 k h1 h2 c, r.1 (fk k) (by rcases k36 h1 h2 with rfl | rfl | rfl | rfl <;> decide) c2]
        exact h.1 k h1 h2
  · rw [x.2.1] at z
    rw [x.2.2 k h1 h2, r.2.2]
    exact h.2.2 z k h1 h2
theorem lk_step {SX SR SX' SR' : FS} (h : LK SX SR) (x : XK 0 SX SX') (r : RK 0 SR SR') : LK SX' SR' :=
  ⟨fun k h1 h2 => by
    rw [x.1 k h1 h2 (by omega), r.1 (fk k) (by rcases k36 h1 h2 with rfl | rfl | rfl | rfl <;> decide) (by rcases k36 h1 h2 with rfl | rfl | rfl | rfl <;> decide)]
    exact h.1 k h1 h2, by rw [x.2.1, r.2.1]; exact h.2.1, fun q k h1 h2 => by
    rw [x.2.1] at q
    rw [x.2.2 k h1 h2, r.2.2]
    exact h.2.2 q k h1 h2⟩
theorem xk_fr {P : Nat → Nat → Prop} {S S' : FS} (h : Fr P S S') (n1 : ∀ k, 3 ≤ k → k ≤ 6 → ¬ P 9 k) (n2 : ¬ P 0 10) (n3 : ∀ k, 3 ≤ k → k ≤ 6 → ¬ P 10 k) : XK 0 S S' := ⟨fun k h1 h2 _ => h.F (lt71 (by omega)) (n1 k h1 h2), h.F (lt71 (by omega)) n2, fun k h1 h2 => h.F (lt71 (by omega)) (n3 k h1 h2)⟩
theorem xk_rf {S : FS} : XK 0 S S := ⟨fun _ _ _ _ => rfl, rfl, fun _ _ _ => rfl⟩
theorem xk_e {P : Nat → Nat → Prop} {S S' : FS} (e : Nat) (h : Fr P S S') (n1 : ∀ k, 3 ≤ k → k ≤ 6 → k ≠ e → ¬ P 9 k) (n2 : ¬ P 0 10) (n3 : ∀ k, 3 ≤ k → k ≤ 6 → ¬ P 10 k) : XK e S S' := ⟨fun k h1 h2 h3 => h.F (lt71 (by omega)) (n1 k h1 h2 h3), h.F (lt71 (by omega)) n2, fun k h1 h2 => h.F (lt71 (by omega)) (n3 k h1 h2)⟩
theorem not_or2 {x : Int32} {a b : Int32} : ¬ (x < a ∨ b < x) ↔ (a ≤ x ∧ x ≤ b) := ⟨fun h => ⟨Int32.not_lt.mp (fun q => h (Or.inl q)), Int32.not_lt.mp (fun q => h (Or.inr q))⟩, fun h q => q.elim (fun q => Int32.not_lt.mpr h.1 q) (fun q => Int32.not_lt.mpr h.2 q)⟩
theorem not_an2 {x : Int32} {a b : Int32} (h : x < a ∨ b < x) : ¬ (a ≤ x ∧ x ≤ b) := fun q => not_or2.mpr q h
/-- customer() answers alike -/
theorem lk_cust {n : Nat} {kd v w r r' : Int32} {SX SX' SR SR' : FS} (hn : fF SX (9 + 0) 3 = nI n) (hn6 : n ≤ 6) (h : LK SX SR) (hC : CuP n kd v w r SX SX') (x : XK 3 SX SX')
    (e1 : r' = (if 0 ≤ kd ∧ kd ≤ 6 then if 0 ≤ v ∧ v ≤ 9 then if 10 ≤ w ∧ w ≤ 99 then if fF SR 0 1 = 6 then -4 else fF SR 0 1 else -2 else -2 else -1)) {n' : Nat} (hn' : fF SR 0 1 = nI n') (hn6' : n' ≤ 6)
    (e2 : SR' = (if 0 ≤ kd ∧ kd ≤ 6 then if 0 ≤ v ∧ v ≤ 9 then if 10 ≤ w ∧ w ≤ 99 then if fF SR 0 1 = 6 then (setF SR 0 8 0) else setF (setA (setF SR 0 8 0) 1 (cs (fA SR 1) n' kd v w)) 0 1 (nI (n' + 1)) else (setF SR 0 8 0) else (setF SR 0 8 0) else (setF SR 0 8 0))) (k1 : RK 1 SR SR') : r = r' ∧ LK SX' SR' := by
  have h9 : fF SX 9 3 = fF SR 0 1 := h.1 3 (by omega) (by omega)
  have en : n' = n := (nI_eq (by omega) (by omega)).mp (hn'.symm.trans (h9.symm.trans hn))
  subst en
  have hL : fF SX' 9 3 = fF SR' 0 1 → LK SX' SR' := fun q => lk_e 3 ⟨by omega, by omega⟩ h x k1 q
  rcases hC with ⟨a, b, c⟩ | ⟨a, a2, b, c⟩ | ⟨a, a2, a3, a4, b, c⟩ | ⟨a, a2, a3, a4, b, c, -⟩
  · rw [if_neg (not_an2 a)] at e1 e2
    exact ⟨b.trans e1.symm, hL (by rw [c, e2]; exact h9)⟩
  · rw [if_pos (not_or2.mp a)] at e1 e2
    by_cases q : v < 0 ∨ 9 < v
    · rw [if_neg (not_an2 q)] at e1 e2
      exact ⟨b.trans e1.symm, hL (by rw [c, e2]; exact h9)⟩
    · rw [if_pos (not_or2.mp q), if_neg (not_an2 (a2.resolve_left q))] at e1 e2
      exact ⟨b.trans e1.symm, hL (by rw [c, e2]; exact h9)⟩
  · rw [if_pos (not_or2.mp a), if_pos (not_or2.mp a2), if_pos (not_or2.mp a3), if_pos (by rw [hn', a4]; rfl)] at e1 e2
    exact ⟨b.trans e1.symm, hL (by rw [c, e2]; exact h9)⟩
  · have q : ¬ fF SR 0 1 = 6 := fun z => by
      rw [hn'] at z
      have := (nI_eq (a := n') (b := 6) (by omega) (by omega)).mp z
      omega
    rw [if_pos (not_or2.mp a), if_pos (not_or2.mp a2), if_pos (not_or2.mp a3), if_neg q] at e1 e2
    exact ⟨by rw [b, e1, hn'], hL (by rw [e2, fF_setF, if_pos ⟨rfl, rfl⟩]; exact c)⟩
theorem lk_knife {x r r' : Int32} {SX SX' SR SR' : FS} (h : LK SX SR) (hC : (x < 0 ∨ 30 < x) ∧ r = -2 ∧ SX' = SX ∨ ¬ (x < 0 ∨ 30 < x) ∧ r = fF SX (9 + 0) 6 ∧ SX' = setF SX (9 + 0) 6 x) (hx : XK 6 SX SX')
    (e1 : r' = (if 0 ≤ x ∧ x ≤ 30 then fF SR 0 2 else -2)) (e2 : SR' = (if 0 ≤ x ∧ x ≤ 30 then setF (setF SR 0 8 0) 0 2 x else (setF SR 0 8 0))) (k1 : RK 2 SR SR') : r = r' ∧ LK SX' SR' := by
  have h9 : fF SX 9 6 = fF SR 0 2 := h.1 6 (by omega) (by omega)
  have hL : fF SX' 9 6 = fF SR' 0 2 → LK SX' SR' := fun q => lk_e 6 ⟨by omega, by omega⟩ h hx k1 q
  rcases hC with ⟨a, b, c⟩ | ⟨a, b, c⟩
  · rw [if_neg (not_an2 a)] at e1 e2
    exact ⟨b.trans e1.symm, hL (by rw [c, e2]; exact h9)⟩
  · rw [if_pos (not_or2.mp a)] at e1 e2
    exact ⟨b.trans (h9.trans e1.symm), hL (by rw [c, e2, fF_setF, if_pos ⟨rfl, rfl⟩, fF_setF, if_pos ⟨rfl, rfl⟩])⟩
theorem lk_see {z z' : Nat} {x r r' : Int32} {SX SX' SR SR' : FS} (hz : fF SX (9 + 0) 4 = nI z) (hz4 : z ≤ 4) (h : LK SX SR) (hC : x = -1 ∧ r = 0 ∧ SX' = setF SX (9 + 0) 4 (nI 0) ∨ x ≠ -1 ∧ (x < 0 ∨ 999 < x) ∧ r = -2 ∧ SX' = SX ∨ x ≠ -1 ∧ ¬ (x < 0 ∨ 999 < x) ∧ z = 4 ∧ r = -4 ∧ SX' = SX ∨ x ≠ -1 ∧ ¬ (x < 0 ∨ 999 < x) ∧ z < 4 ∧ r = nI (z + 1) ∧ SX' = setF (setA SX (9 + 0 + 6) (upd (fA SX (9 + 0 + 6)) z x)) (9 + 0) 4 (nI (z + 1))) (hx : XK 4 SX SX')
    (e1 : r' = (if x = -1 then 0 else if 0 ≤ x ∧ x ≤ 999 then if fF SR 0 5 = 4 then -4 else fF SR 0 5 + 1 else -2)) (e2 : SR' = (if x = -1 then setF (setF SR 0 8 0) 0 5 0 else if 0 ≤ x ∧ x ≤ 999 then if fF SR 0 5 = 4 then (setF SR 0 8 0) else setF (setA (setF SR 0 8 0) 2 (upd (fA SR 2) z' x)) 0 5 (fF SR 0 5 + 1) else (setF SR 0 8 0))) (k1 : RK 5 SR SR') : r = r' ∧ LK SX' SR' := by
  have h9 : fF SX 9 4 = fF SR 0 5 := h.1 4 (by omega) (by omega)
  have h5 : fF SR 0 5 = nI z := h9.symm.trans hz
  have hL : fF SX' 9 4 = fF SR' 0 5 → LK SX' SR' := fun q => lk_e 4 ⟨by omega, by omega⟩ h hx k1 q
  rcases hC with ⟨a, b, c⟩ | ⟨a, a2, b, c⟩ | ⟨a, a2, a3, b, c⟩ | ⟨a, a2, a3, b, c⟩
  · rw [if_pos a] at e1 e2
    exact ⟨b.trans e1.symm, hL (by rw [c, e2, fF_setF, if_pos ⟨rfl, rfl⟩, fF_setF, if_pos ⟨rfl, rfl⟩]; rfl)⟩
  · rw [if_neg a, if_neg (not_an2 a2)] at e1 e2
    exact ⟨b.trans e1.symm, hL (by rw [c, e2]; exact h9)⟩
  · rw [if_neg a, if_pos (not_or2.mp a2), if_pos (by rw [h5, a3]; rfl)] at e1 e2
    exact ⟨b.trans e1.symm, hL (by rw [c, e2]; exact h9)⟩
  · have q : ¬ fF SR 0 5 = 4 := fun y => by
      rw [h5] at y
      have := (nI_eq (a := z) (b := 4) (by omega) (by omega)).mp y
      omega
    rw [if_neg a, if_pos (not_or2.mp a2), if_neg q] at e1 e2
    exact ⟨by rw [b, e1, h5, nI_succ], hL (by rw [c, e2, fF_setF, if_pos ⟨rfl, rfl⟩, fF_setF, if_pos ⟨rfl, rfl⟩, h5, nI_succ])⟩
theorem lk_book {n u u' : Nat} {x r r' : Int32} {SX SX' SR SR' : FS} (hn : fF SX (9 + 0) 3 = nI n) (hn6 : n ≤ 6) (hu : fF SX (9 + 0) 5 = nI u) (hu8 : u ≤ 8) (h : LK SX SR) (hC : x = -1 ∧ r = 0 ∧ SX' = setF SX (9 + 0) 5 (nI 0) ∨ x ≠ -1 ∧ (x < 0 ∨ nI n ≤ x) ∧ r = -1 ∧ SX' = SX ∨ x ≠ -1 ∧ (∃ j, j < n ∧ x = nI j) ∧ u = 8 ∧ r = -4 ∧ SX' = SX ∨ x ≠ -1 ∧ (∃ j, j < n ∧ x = nI j) ∧ u < 8 ∧ r = nI (u + 1) ∧ SX' = setF (setA SX (9 + 0 + 9) (upd (fA SX (9 + 0 + 9)) u x)) (9 + 0) 5 (nI (u + 1))) (hx : XK 5 SX SX')
    (e1 : r' = (if x = -1 then 0 else if (0 ≤ x ∧ x ≤ fF SR 0 1 - 1) then if fF SR 0 7 = 8 then -4 else fF SR 0 7 + 1 else -1)) (e2 : SR' = (if x = -1 then setF (setF SR 0 8 0) 0 7 0 else if (0 ≤ x ∧ x ≤ fF SR 0 1 - 1) then if fF SR 0 7 = 8 then (setF SR 0 8 0) else setF (setA (setF SR 0 8 0) 3 (upd (fA SR 3) u' x)) 0 7 (fF SR 0 7 + 1) else (setF SR 0 8 0))) (k1 : RK 7 SR SR') : r = r' ∧ LK SX' SR' := by
  have h3 : fF SR 0 1 = nI n := (h.1 3 (by omega) (by omega)).symm.trans hn
  have h9 : fF SX 9 5 = fF SR 0 7 := h.1 5 (by omega) (by omega)
  have h7 : fF SR 0 7 = nI u := h9.symm.trans hu
  have hL : fF SX' 9 5 = fF SR' 0 7 → LK SX' SR' := fun q => lk_e 5 ⟨by omega, by omega⟩ h hx k1 q
  have hin : ∀ j, j < n → x = nI j → (0 ≤ x ∧ x ≤ fF SR 0 1 - 1) := fun j hj e => by
    rw [e, h3]
    cases n with
    | zero => exact absurd hj (by omega)
    | succ n =>
      rw [nI_pred]
      exact ⟨(nI_leI (a := 0) (by omega) (by omega)).mpr (Nat.zero_le _), (nI_leI (by omega) (by omega)).mpr (by omega)⟩
  rcases hC with ⟨a, b, c⟩ | ⟨a, a2, b, c⟩ | ⟨a, ⟨j, hj, ej⟩, a3, b, c⟩ | ⟨a, ⟨j, hj, ej⟩, a3, b, c⟩
  · rw [if_pos a] at e1 e2
    exact ⟨b.trans e1.symm, hL (by rw [c, e2, fF_setF, if_pos ⟨rfl, rfl⟩, fF_setF, if_pos ⟨rfl, rfl⟩]; rfl)⟩
  · have q : ¬ (0 ≤ x ∧ x ≤ fF SR 0 1 - 1) := fun z => by
      obtain ⟨j, hj, ej⟩ := isC_t z h3 hn6
      subst ej
      rcases a2 with a2 | a2
      · exact Int32.not_lt.mpr z.1 a2
      · have := (nI_leI (by omega) (by omega)).mp a2
        omega
    rw [if_neg a, if_neg q] at e1 e2
    exact ⟨b.trans e1.symm, hL (by rw [c, e2]; exact h9)⟩
  · rw [if_neg a, if_pos (hin j hj ej), if_pos (by rw [h7, a3]; rfl)] at e1 e2
    exact ⟨b.trans e1.symm, hL (by rw [c, e2]; exact h9)⟩
  · have q : ¬ fF SR 0 7 = 8 := fun y => by
      rw [h7] at y
      have := (nI_eq (a := u) (b := 8) (by omega) (by omega)).mp y
      omega
    rw [if_neg a, if_pos (hin j hj ej), if_neg q] at e1 e2
    exact ⟨by rw [b, e1, h7, nI_succ], hL (by rw [c, e2, fF_setF, if_pos ⟨rfl, rfl⟩, fF_setF, if_pos ⟨rfl, rfl⟩, h7, nI_succ])⟩
theorem lk_image {n : Nat} {r r' : Int32} {SX SX' SR SR' : FS} {P : Nat → Nat → Prop} (hn : fF SX (9 + 0) 3 = nI n) (h : LK SX SR) (hF : Fr P SX SX') (n1 : ∀ k, 3 ≤ k → k ≤ 6 → ¬ P 9 k) (hB : r = nI n ∧ fF SX' 0 10 = 1 ∧ BE SX 1 0 n SX') (k : (∀ i, i < 89 → vec SR' i = vec SR i) ∧ fF SR' 0 11 = 1 ∧ ∀ i, i < 89 → fA SR' 5 i = vec SR i) (e1 : r' = fF SR' 0 1) : r = r' ∧ LK SX' SR' := by
  have f : ∀ j, 3 ≤ j → j ≤ 6 → fF SR' 0 (fk j) = fF SR 0 (fk j) := fun j a b => by
    rw [← vk_fk SR' a b, ← vk_fk SR a b]
    exact k.1 _ (vk_lt j)
  refine ⟨?_, fun j a b => ?_, ⟨fun q => ?_, fun q => ?_⟩, fun _ j a b => ?_⟩
  · rw [e1, hB.1]
    exact (hn.symm.trans (h.1 3 (by omega) (by omega))).trans (f 3 (by omega) (by omega)).symm
  · rw [hF.F (lt71 (by omega)) (n1 j a b), f j a b]
    exact h.1 j a b
  · rw [hB.2.1] at q
    exact absurd q (by decide)
  · rw [k.2.1] at q
    exact absurd q (by decide)
  · rw [k.2.2 _ (vk_lt j), vk_fk SR a b, ← h.1 j a b]
    exact hB.2.2.1 j a b
theorem lk_undo {mz : Nat} {r r' : Int32} {SX SX' SR SR' : FS} {P : Nat → Nat → Prop} (hm : fF SX (9 + 1) 3 = nI mz) (h : LK SX SR) (hF : Fr P SX SX') (n2 : ¬ P 0 10) (n3 : ∀ k, 3 ≤ k → k ≤ 6 → ¬ P 10 k) (hB : BE SX 0 1 mz SX') (hr : r = nI mz) (hi : ¬ fF SX 0 10 = 0) (k : (∀ i, i < 89 → vec SR' i = fA SR 5 i) ∧ fF SR' 0 11 = fF SR 0 11 ∧ ∀ i, i < 89 → fA SR' 5 i = fA SR 5 i) (e1 : r' = fF SR' 0 1) : r = r' ∧ LK SX' SR' := by
  have hx2 := hF.F (j := 0) (k := 10) (lt71 (by omega)) n2
  have f : ∀ j, 3 ≤ j → j ≤ 6 → fF SR' 0 (fk j) = fA SR 5 (vk j) := fun j a b => by
    rw [← vk_fk SR' a b]
    exact k.1 _ (vk_lt j)
  refine ⟨?_, fun j a b => ?_, by rw [hx2, k.2.1]; exact h.2.1, fun _ j a b => ?_⟩
  · rw [e1, hr]
    exact (hm.symm.trans (h.2.2 hi 3 (by omega) (by omega))).trans (f 3 (by omega) (by omega)).symm
  · rw [f j a b, ← h.2.2 hi j a b]
    exact hB.1 j a b
  · rw [hF.F (lt71 (by omega)) (n3 j a b), k.2.2 _ (vk_lt j)]
    exact h.2.2 hi j a b
theorem act_len (a k : Int32) : (if a = 0 then aB k else if a = 1 then bB k else tlB k).length ≤ 12 := by
  split
  · have := aB_len k
    omega
  · split
    · have := bB_len k
      omega
    · exact tlB_len k
