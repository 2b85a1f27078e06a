/-- what else of the reference stays: kinds, v and extras of its customers (but at A), the tapes' sorts and lengths (but at T), their items (but at L) -/
def RZ (A T L : Prop) (S S' : FS) : Prop := (¬ A → ∀ i, i < 72 → (i % 12 < 2 ∨ 8 ≤ i % 12) → fA S' 1 i = fA S 1 i) ∧ (¬ T → fA S' 18 = fA S 18 ∧ fA S' 19 = fA S 19 ∧ fA S' 22 = fA S 22) ∧ (¬ L → fL S' 20 = fL S 20)
theorem rz_of {A T L : Prop} {S S' : FS} (h1 : ∀ i, i < 72 → (i % 12 < 2 ∨ 8 ≤ i % 12) → fA S' 1 i = fA S 1 i) (h2 : fA S' 18 = fA S 18 ∧ fA S' 19 = fA S 19 ∧ fA S' 22 = fA S 22) (h3 : fL S' 20 = fL S 20) : RZ A T L S S' := ⟨fun _ => h1, fun _ => h2, fun _ => h3⟩
theorem rz_E {A T L : Prop} {S S' : FS} (k : S' = setF S 0 8 0) : RZ A T L S S' := k ▸ rz_of (fun _ _ _ => rfl) ⟨rfl, rfl, rfl⟩ rfl
theorem rz_H {A T L : Prop} {S S' : FS} (k : HFr (setF S 0 8 0) S') : RZ A T L S S' :=
  rz_of (fun i _ _ => congrFun (k.2.2.2 1 (by omega) (by omega) (by omega)) i) ⟨k.2.2.2 18 (by omega) (by omega) (by omega), k.2.2.2 19 (by omega) (by omega) (by omega), k.2.2.2 22 (by omega) (by omega) (by omega)⟩ (congrFun k.1 20)
theorem rz_Q {A T L : Prop} {S S' : FS} (k : QP (setF S 0 8 0) S') : RZ A T L S S' := by
  obtain ⟨k0, -, -, k3, -, -, k5⟩ := k
  exact rz_of (fun i hi _ => k5 i hi) ⟨k3 18 (by omega) (by omega) (by omega) (by omega) (by omega) (by omega) (by omega), k3 19 (by omega) (by omega) (by omega) (by omega) (by omega) (by omega) (by omega), k3 22 (by omega) (by omega) (by omega) (by omega) (by omega) (by omega) (by omega)⟩ (congrFun k0 20)
theorem rz_M {A T L : Prop} {S S' : FS} (k : MO (setF S 0 8 0) S' ∧ SV 9999 S') : RZ A T L S S' := by
  obtain ⟨⟨k0, -, -, k2, k3⟩, -⟩ := k
  exact rz_of (fun i _ hi => k3 i (by omega)) ⟨k2 18 (by omega) (by omega) (by omega) (by omega), k2 19 (by omega) (by omega) (by omega) (by omega), k2 22 (by omega) (by omega) (by omega) (by omega)⟩ (congrFun k0 20)
theorem rz_CA {A T L : Prop} {q : Nat} {w : Nat → Int32} {tk : Int32} {S0 S S' : FS} (k : CA q w tk 89 89 S0 S') (hq : q = 5) (h0 : fL S0 = fL S ∧ ∀ i, fA S0 i = fA S i) : (fA S' 18 = fA S 18 ∧ fA S' 19 = fA S 19 ∧ fA S' 22 = fA S 22) ∧ fL S' 20 = fL S 20 := by
  subst hq
  obtain ⟨⟨k0, -, -, -⟩, -, k2, -⟩ := k
  exact ⟨⟨(k2 18 (by omega) (by omega) (by omega) (by omega)).trans (h0.2 18), (k2 19 (by omega) (by omega) (by omega) (by omega)).trans (h0.2 19), (k2 22 (by omega) (by omega) (by omega) (by omega)).trans (h0.2 22)⟩, (congrFun k0 20).trans (congrFun h0.1 20)⟩
theorem rz_A1 {A T L : Prop} {S : FS} {j : Nat} {v : Int32} (hj : ¬ (j % 12 < 2 ∨ 8 ≤ j % 12)) : RZ A T L S (setA (setF S 0 8 0) 1 (upd (fA S 1) j v)) :=
  rz_of (fun i _ hi => by rw [fA_setA, if_pos rfl, pk_un (by intro e; exact hj (e ▸ hi))]) ⟨by rw [fA_setA, if_neg (by omega)]; rfl, by rw [fA_setA, if_neg (by omega)]; rfl, by rw [fA_setA, if_neg (by omega)]; rfl⟩ rfl
theorem rz_set {A T L : Prop} {S S' : FS} {P1 P2 P3 : Prop} [Decidable P1] [Decidable P2] [Decidable P3] {j : Nat} (hj : ¬ (j % 12 < 2 ∨ 8 ≤ j % 12)) {n_ : Int32} (k : S' = (if P1 then if P2 then if P3 then setA (setF S 0 8 0) 1 (upd (fA S 1) j n_) else (setF S 0 8 0) else (setF S 0 8 0) else (setF S 0 8 0))) : RZ A T L S S' := by
  subst k
  split
  · split
    · split
      · exact rz_A1 hj
      · exact rz_E rfl
    · exact rz_E rfl
  · exact rz_E rfl
theorem slw_r (c what : Int32) : ¬ ((12 * c.toNatClampNeg + slw what) % 12 < 2 ∨ 8 ≤ (12 * c.toNatClampNeg + slw what) % 12) := by
  have := slw_c what
  omega
theorem rz_row {T L : Prop} {S S' : FS} {P1 P2 P3 P4 : Prop} [Decidable P1] [Decidable P2] [Decidable P3] [Decidable P4] {f : Nat → Int32} (k : S' = (if P1 then if P2 then if P3 then if P4 then setA (setF S 0 8 0) 1 f else (setF S 0 8 0) else (setF S 0 8 0) else (setF S 0 8 0) else (setF S 0 8 0))) : RZ True T L S S' := by
  have h : RZ True T L S (setA (setF S 0 8 0) 1 f) := ⟨fun q => absurd trivial q, fun _ => ⟨by rw [fA_setA, if_neg (by omega)]; rfl, by rw [fA_setA, if_neg (by omega)]; rfl, by rw [fA_setA, if_neg (by omega)]; rfl⟩, fun _ => rfl⟩
  subst k
  split
  · split
    · split
      · split
        · exact h
        · exact rz_E rfl
      · exact rz_E rfl
    · exact rz_E rfl
  · exact rz_E rfl
theorem rz_cust {T L : Prop} {S S' : FS} {P1 P2 P3 P4 : Prop} [Decidable P1] [Decidable P2] [Decidable P3] [Decidable P4] {f : Nat → Int32} {v : Int32} (k : S' = (if P1 then if P2 then if P3 then if P4 then (setF S 0 8 0) else setF (setA (setF S 0 8 0) 1 f) 0 1 v else (setF S 0 8 0) else (setF S 0 8 0) else (setF S 0 8 0))) : RZ True T L S S' := by
  have h : RZ True T L S (setF (setA (setF S 0 8 0) 1 f) 0 1 v) := ⟨fun q => absurd trivial q, fun _ => ⟨by rw [fA_setF, fA_setA, if_neg (by omega)]; rfl, by rw [fA_setF, fA_setA, if_neg (by omega)]; rfl, by rw [fA_setF, fA_setA, if_neg (by omega)]; rfl⟩, fun _ => rfl⟩
  subst k
  split
  · split
    · split
      · split
        · exact rz_E rfl
        · exact h
      · exact rz_E rfl
    · exact rz_E rfl
  · exact rz_E rfl
theorem rz_A {A T L : Prop} {S : FS} {j k : Nat} {f : Nat → Int32} {v : Int32} (hj : j ≠ 1 ∧ j ≠ 18 ∧ j ≠ 19 ∧ j ≠ 22) : RZ A T L S (setF (setA (setF S 0 8 0) j f) 0 k v) :=
  rz_of (fun i _ _ => by rw [fA_setF, fA_setA, if_neg (by omega)]; rfl) ⟨by rw [fA_setF, fA_setA, if_neg (by omega)]; rfl, by rw [fA_setF, fA_setA, if_neg (by omega)]; rfl, by rw [fA_setF, fA_setA, if_neg (by omega)]; rfl⟩ rfl
theorem rz_F {A T L : Prop} {S : FS} {k : Nat} {v : Int32} : RZ A T L S (setF (setF S 0 8 0) 0 k v) := rz_of (fun _ _ _ => rfl) ⟨rfl, rfl, rfl⟩ rfl
theorem rz_feed {A T L : Prop} {S S' : FS} {P1 P2 : Prop} [Decidable P1] [Decidable P2] {f : Nat → Int32} {v : Int32} (k : S' = (if P1 then if P2 then (setF S 0 8 0) else setF (setA (setF S 0 8 0) 6 f) 0 17 v else (setF S 0 8 0))) : RZ A T L S S' := by
  subst k
  split
  · split
    · exact rz_E rfl
    · exact rz_A (by omega)
  · exact rz_E rfl
theorem rz_knife {A T L : Prop} {S S' : FS} {P1 : Prop} [Decidable P1] {v : Int32} (k : S' = (if P1 then setF (setF S 0 8 0) 0 2 v else (setF S 0 8 0))) : RZ A T L S S' := by
  subst k
  split
  · exact rz_F
  · exact rz_E rfl
theorem rz_sb {A T L : Prop} {S S' : FS} {P1 P2 P3 : Prop} [Decidable P1] [Decidable P2] [Decidable P3] {j q : Nat} (hj : j = 2 ∨ j = 3) {f : Nat → Int32} {v : Int32} (k : S' = (if P1 then setF (setF S 0 8 0) 0 q 0 else if P2 then if P3 then (setF S 0 8 0) else setF (setA (setF S 0 8 0) j f) 0 q v else (setF S 0 8 0))) : RZ A T L S S' := by
  subst k
  split
  · exact rz_F
  · split
    · split
      · exact rz_E rfl
      · exact rz_A (by omega)
    · exact rz_E rfl
theorem rz_cnt {A T L : Prop} {S S' : FS} {nc : Nat} (k : CNT nc S S') : RZ A T L S S' := by
  obtain ⟨k0, -, -, k2, -⟩ := k
  have a : ∀ i, i < 7 ∨ 13 < i → fA S' i = fA S i := fun i _ => k2 i (by omega) (by omega) (by omega) (by omega) (by omega) (by omega) (by omega)
  exact rz_of (fun i _ _ => congrFun (a 1 (by omega)) i) ⟨a 18 (by omega), a 19 (by omega), a 22 (by omega)⟩ (congrFun k0 20)
theorem ntl_fA (bs : List Int32) : ∀ (t : Nat) (S : FS) {i : Nat} (h : i ≠ 17), fA (ntl t S bs) i = fA S i := by
  induction bs with
  | nil => exact fun _ _ _ _ => rfl
  | cons b bs ih =>
    intro t S i h
    refine (ih (t + 1) (ntS t S b) h).trans ?_
    unfold ntS
    split
    · rw [fA_setF, fA_setA, if_neg h]
    · rfl
theorem ntl_fL (bs : List Int32) : ∀ (t : Nat) (S : FS), fL (ntl t S bs) = fL S := by
  induction bs with
  | nil => exact fun _ _ => rfl
  | cons b bs ih =>
    intro t S
    refine (ih (t + 1) (ntS t S b)).trans ?_
    unfold ntS
    split <;> rfl
theorem rz_act {A T L : Prop} {S S' : FS} {P : Prop} {c k v : Int32} {bs : List Int32} (e : (¬ P ∧ S' = (setF (setF S 0 8 0) 0 40 0)) ∨ (P ∧ S' = ntl 0 (setF (setF (setF (setF (setF S 0 8 0) 0 40 0) 0 41 k) 0 42 v) 0 43 c) bs)) : RZ A T L S S' := by
  rcases e with ⟨-, rfl⟩ | ⟨-, rfl⟩
  · exact rz_F
  · exact rz_of (fun i _ _ => by rw [ntl_fA _ _ _ (by omega)]; rfl) ⟨by rw [ntl_fA _ _ _ (by omega)]; rfl, by rw [ntl_fA _ _ _ (by omega)]; rfl, by rw [ntl_fA _ _ _ (by omega)]; rfl⟩ (by rw [ntl_fL]; rfl)
/-- customers alike: kinds, v and extras of the shop h, by the numbers kept in w -/
def CK (h : Nat) (w : Nat → Int32) (S : FS) (n : Nat) : Prop := ∀ c, c < n → ∃ q, q < 7 ∧ fR S (21 + 6 * h + c) 2 = some (2 + q) ∧ w (5 + (12 * c + 0)) = nI q ∧ w (5 + (12 * c + 1)) = fF S (21 + 6 * h + c) 3 ∧ ∀ p, p < 4 → w (5 + (12 * c + (8 + p))) = fA S (21 + 6 * h + c + 18) p
theorem ck_congr {h : Nat} {w w' : Nat → Int32} {S S' : FS} {n : Nat} (k : CK h w S n) (hn : n ≤ 6) (e1 : ∀ c, c < 6 → fR S' (21 + 6 * h + c) 2 = fR S (21 + 6 * h + c) 2 ∧ fF S' (21 + 6 * h + c) 3 = fF S (21 + 6 * h + c) 3 ∧ fA S' (21 + 6 * h + c + 18) = fA S (21 + 6 * h + c + 18)) (e2 : ∀ i, i < 72 → (i % 12 < 2 ∨ 8 ≤ i % 12) → w' (5 + i) = w (5 + i)) : CK h w' S' n := fun c hc => by
  obtain ⟨q, a, b, d, e, f⟩ := k c hc
  obtain ⟨g1, g2, g3⟩ := e1 c (by omega)
  exact ⟨q, a, g1.trans b, (e2 _ (by omega) (by omega)).trans d, ((e2 _ (by omega) (by omega)).trans e).trans g2.symm, fun p hp => ((e2 _ (by omega) (by omega)).trans (f p hp)).trans (congrFun g3 p).symm⟩
/-- the tapes alike -/
def TR (SX SR : FS) : Prop := ∀ t, t < 6 → (fA SX 62 t = -1 ↔ fA SR 22 t = 0) ∧ (¬ fA SX 62 t = -1 → fA SX 62 t = fA SR 18 t) ∧ fA SX 63 t = fA SR 19 t
theorem tr_step {A L : Prop} {P : Nat → Nat → Prop} {SX SX' SR SR' : FS} (h : TR SX SR) (hF : Fr P SX SX') (n1 : ¬ P 62 99) (n2 : ¬ P 63 99) (r : RZ A False L SR SR') : TR SX' SR' := by
  obtain ⟨e18, e19, e22⟩ := r.2.1 (fun q => q)
  have e62 := hF.A (j := 62) (lt71 (by omega)) n1
  have e63 := hF.A (j := 63) (lt71 (by omega)) n2
  intro t ht
  rw [e18, e19, e22, e62, e63]
  exact h t ht
