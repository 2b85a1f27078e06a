section BV
theorem bv_x1 {X : BitVec 32} (h : X.getLsbD 0 = false) : X ^^^ 1#32 = X ||| 1#32 := by
  apply BitVec.eq_of_getLsbD_eq
  intro i hi
  rw [BitVec.getLsbD_xor, BitVec.getLsbD_or, BitVec.getLsbD_one]
  by_cases c : i = 0
  · subst c
    rw [h]
    rfl
  · simp [c]
theorem bv_a2 {X : BitVec 32} (h : X.getLsbD 0 = false) : X &&& ~~~(1#32) = X := by
  apply BitVec.eq_of_getLsbD_eq
  intro i hi
  rw [BitVec.getLsbD_and, BitVec.getLsbD_not, BitVec.getLsbD_one]
  by_cases c : i = 0
  · subst c
    rw [h]
    rfl
  · simp [c, hi]
theorem bv_o2 {X : BitVec 32} (h : X.getLsbD 0 = false) : (X ||| 1#32) &&& ~~~(1#32) = X := by
  apply BitVec.eq_of_getLsbD_eq
  intro i hi
  rw [BitVec.getLsbD_and, BitVec.getLsbD_or, BitVec.getLsbD_not, BitVec.getLsbD_one]
  by_cases c : i = 0
  · subst c
    rw [h]
    rfl
  · simp [c, hi]
theorem bv_ox {X : BitVec 32} (h : X.getLsbD 0 = false) : (X ||| 1#32) ^^^ 1#32 = X := by
  rw [← bv_x1 h, BitVec.xor_assoc, BitVec.xor_self, BitVec.xor_zero]
theorem bv_oo (X : BitVec 32) : (X ||| 1#32) ||| 1#32 = X ||| 1#32 := by rw [BitVec.or_assoc, BitVec.or_self]
theorem i_bv (n : Nat) : (nI n).toBitVec = BitVec.ofNat 32 n := rfl
theorem ev_0 (y : Nat) : (nI (2 * y)).toBitVec.getLsbD 0 = false := by
  rw [i_bv, BitVec.getLsbD_ofNat]
  simp [Nat.testBit_zero]
theorem od_1 {y : Nat} (h : 2 * y < 2 ^ 31) : nI (2 * y + 1) = nI (2 * y) ||| 1 := by
  apply Int32.toBitVec_inj.mp
  have hz : (nI (2 * y)).toBitVec &&& (1 : Int32).toBitVec = 0#32 := by
    have := congrArg Int32.toBitVec (pk_andN (n := 2 * y) (by omega) (m := 1) 1 (by decide))
    rw [show 2 * y % 2 ^ 1 = 0 by omega] at this
    exact this
  have := BitVec.add_eq_or_of_and_eq_zero _ _ hz
  rw [← nI_1]
  exact this
theorem nx_e {y : Nat} (h : 2 * y < 2 ^ 31) : nI (2 * y) ^^^ 1 = nI (2 * y + 1) := by
  rw [od_1 h]
  exact Int32.toBitVec_inj.mp (bv_x1 (ev_0 y))
theorem nx_o {y : Nat} (h : 2 * y < 2 ^ 31) : nI (2 * y + 1) ^^^ 1 = nI (2 * y) := by
  rw [od_1 h]
  exact Int32.toBitVec_inj.mp (bv_ox (ev_0 y))
theorem na_e {y : Nat} : nI (2 * y) &&& (-2) = nI (2 * y) := Int32.toBitVec_inj.mp (bv_a2 (ev_0 y))
theorem na_o {y : Nat} (h : 2 * y < 2 ^ 31) : nI (2 * y + 1) &&& (-2) = nI (2 * y) := by
  rw [od_1 h]
  exact Int32.toBitVec_inj.mp (bv_o2 (ev_0 y))
theorem no_o {y : Nat} (h : 2 * y < 2 ^ 31) : nI (2 * y + 1) ||| 1 = nI (2 * y + 1) := by
  rw [od_1 h]
  exact Int32.toBitVec_inj.mp (bv_oo _)
end BV
theorem or_z (x : Int32) : x ||| 0 = x := by apply Int32.toBitVec_inj.mp; exact BitVec.or_zero
theorem and_m1 (x : Int32) : x &&& (-1) = x := by apply Int32.toBitVec_inj.mp; exact BitVec.and_allOnes
theorem ev_od (x : Nat) : (∃ y, x = 2 * y) ∨ ∃ y, x = 2 * y + 1 := by
  rcases Nat.mod_two_eq_zero_or_one x with h | h
  · exact Or.inl ⟨x / 2, by omega⟩
  · exact Or.inr ⟨x / 2, by omega⟩
/-- one code on the bits, as the class does it -/
theorem sx_stp {E : Int32 → Int32 → Bool} {x : Nat} {s : Int32} {c : Int32 × Int32} (hx : x < 2 ^ 30) (h21 : ¬ c.1 = 21) : sx E (nI x, s) c = (nI (stp1 E c x), s) := by
  have h1 : nI x &&& 1 = nI (x % 2) := pk_andN (by omega) 1 (by decide)
  have h2 : nI x >>> ((1 : Int32) &&& 31) = nI (x / 2) := pk_shrN (by omega) _ 1 (by decide)
  unfold stp1
  by_cases c1 : c.1 = 18
  · rw [sx_18 c1, if_pos c1]
    rcases ev_od x with ⟨y, rfl⟩ | ⟨y, rfl⟩
    · rw [if_pos (by omega), nx_e (by omega)]
    · rw [if_neg (by omega), nx_o (by omega), Nat.add_sub_cancel]
  · rw [if_neg c1]
    by_cases c2 : c.1 = 19
    · rw [sx_19 c2, if_pos c2, h1, h2]
      by_cases q : x % 2 = 1
      · rw [q, if_pos rfl, show (nI 1 ||| (-2) : Int32) = -1 from by decide, and_m1]
      · rw [show x % 2 = 0 by omega, if_neg (by omega), show (nI 0 ||| (-2) : Int32) = -2 from by decide]
        rcases ev_od (x / 2) with ⟨y, e⟩ | ⟨y, e⟩
        · rw [e, na_e, show 2 * y - 2 * y % 2 = 2 * y by omega]
        · rw [e, na_o (by omega), show 2 * y + 1 - (2 * y + 1) % 2 = 2 * y by omega]
    · rw [if_neg c2]
      by_cases c3 : c.1 = 20
      · rw [sx_20 c3, if_pos c3, h1, h2]
        by_cases q : x % 2 = 1
        · rw [q]
          rcases ev_od (x / 2) with ⟨y, e⟩ | ⟨y, e⟩
          · rw [e, if_pos ⟨rfl, by omega⟩, od_1 (by omega)]
            rfl
          · rw [e, if_neg (fun z => by omega)]
            exact congrArg (fun z => (z, s)) (no_o (by omega))
        · rw [show x % 2 = 0 by omega, if_neg (fun z => by omega)]
          exact congrArg (fun z => (z, s)) (or_z _)
      · rw [if_neg c3, sx_d c1 c2 c3 h21]
        have h3 : nI x <<< ((1 : Int32) &&& 31) = nI (2 * x) := by
          rw [pk_shlN _ 1 (by decide) (by omega)]
          exact congrArg nI (by omega)
        rw [h3]
        unfold b2n
        by_cases q : E c.1 c.2 = true
        · rw [if_pos q, if_pos q, od_1 (by omega)]
        · rw [if_neg q, if_neg q, or_z, Nat.add_zero]
theorem fold_exe {E : Int32 → Int32 → Bool} {s : Int32} : ∀ (L : List (Int32 × Int32)) (x : Nat), bnd E (2 ^ 30) L x → (∀ c ∈ L, ¬ c.1 = 21) → L.foldl (sx E) (nI x, s) = (nI (exe E L x), s) := by
  intro L
  induction L with
  | nil => exact fun _ _ _ => rfl
  | cons c L ih =>
    intro x hb h21
    rw [List.foldl_cons, sx_stp hb.1 (h21 c (List.mem_cons_self ..))]
    exact ih _ hb.2 (fun d hd => h21 d (List.mem_cons_of_mem _ hd))
/-- what an expression says -/
def said (E : Int32 → Int32 → Bool) (τ : Nat → Int32) (at_ : Nat) : Bool := match (anyP (vaA E) (oneP (vaA E) τ 4) τ at_).1 with | some b => b | none => false
/-- what a clause adds -/
def addc {α : Type} (E : Int32 → Int32 → Bool) (τ : Nat → Int32) (c : Nat × Int32 × Option (Nat × α)) : Int32 := match c.2.2 with | some x => if said E τ x.1 = true then (if c.1 = 0 then c.2.1 else -c.2.1) else 0 | none => 0
def addC {α : Type} (E : Int32 → Int32 → Bool) (τ : Nat → Int32) : List (Nat × Int32 × Option (Nat × α)) → Int32 → Int32
  | [], s => s
  | c :: C, s => addC E τ C (s + addc E τ c)
/-- the class's sum over a counter's codes -/
theorem fold_cds {E : Int32 → Int32 → Bool} {τ : Nat → Int32} : ∀ (C : Cls) (s : Int32), (∀ c ∈ C, ∀ x, c.2.2 = some x → ∃ q, anyP cdA (oneP cdA τ 4) τ x.1 = (some x.2, q)) → (cds C).foldl (sx E) (0, s) = (0, addC E τ C s) := by
  intro C
  induction C with
  | nil => exact fun _ _ => rfl
  | cons c C ih =>
    intro s h
    show (ccd c ++ cds C).foldl (sx E) (0, s) = (0, addC E τ C (s + addc E τ c))
    rw [List.foldl_append, ← ih (s + addc E τ c) (fun d hd => h d (List.mem_cons_of_mem _ hd))]
    refine congrArg (fun z => List.foldl (sx E) z (cds C)) ?_
    cases e : c.2.2 with
    | none =>
      have e1 : ccd c = [] := by unfold ccd; rw [e]
      have e2 : addc E τ c = 0 := by unfold addc; rw [e]
      rw [e1, e2, Int32.add_zero]
      rfl
    | some x =>
      obtain ⟨q, hq⟩ := h c (List.mem_cons_self ..) x e
      obtain ⟨b, hb, hp1, hp2, hp3⟩ := codes_say (E := E) hq
      have e1 : ccd c = x.2 ++ [(21, if c.1 = 0 then c.2.1 else -c.2.1)] := by unfold ccd; rw [e]
      have e3 : said E τ x.1 = b := by unfold said; rw [hb]
      have e2 : addc E τ c = if b = true then (if c.1 = 0 then c.2.1 else -c.2.1) else 0 := by unfold addc; rw [e, ← e3]
      rw [e1, List.foldl_append, show ((0 : Int32), s) = (nI 0, s) from rfl, fold_exe x.2 0 (bnd_mono (by decide) (hp2 0 0 (by decide))) hp3, hp1 0, e2]
      show sx E (nI (2 * 0 + b2n b), s) (21, _) = _
      rw [sx_21 rfl]
      cases b
      · show ((0 : Int32), s + (nI 0 &&& 1) * _) = (0, s + if false = true then _ else 0)
        rw [show (nI 0 &&& 1 : Int32) = 0 from by decide, Int32.zero_mul]
        rfl
      · show ((0 : Int32), s + (nI 1 &&& 1) * _) = (0, s + if true = true then _ else 0)
        rw [show (nI 1 &&& 1 : Int32) = 1 from by decide, Int32.one_mul]
        rfl
