/-- the state with one cell more -/
def gNew (S : FS) (κ n : Nat) (f a : Nat → Int32) (r : Nat → Option Nat) : FS := (va_up S.1 (71 + fC S) f, va_up S.2.1 (71 + fC S) a, S.2.2.1, va_up S.2.2.2.1 (71 + fC S) r, va_up S.2.2.2.2.1 (71 + fC S) n, va_up S.2.2.2.2.2.1 (71 + fC S) κ, fC S + 1)
theorem gNew_fr {P : Nat → Nat → Prop} {S : FS} {κ n : Nat} {f a : Nat → Int32} {r : Nat → Option Nat} : Fr P S (gNew S κ n f a r) := ⟨Nat.le_succ _, fun j hj => by
  have e : j ≠ 71 + fC S := by omega
  exact ⟨fun k _ => ⟨congrFun (va_up_ne S.1 f e) k, congrFun (va_up_ne S.2.2.2.1 r e) k⟩, fun _ => va_up_ne S.2.1 a e, fun _ => rfl, va_up_ne S.2.2.2.2.1 n e, va_up_ne S.2.2.2.2.2.1 κ e⟩⟩
theorem gNew_F (S : FS) (κ n : Nat) (f a : Nat → Int32) (r : Nat → Option Nat) : fF (gNew S κ n f a r) (71 + fC S) = f := va_up_self S.1 _ f
theorem gNew_A (S : FS) (κ n : Nat) (f a : Nat → Int32) (r : Nat → Option Nat) : fA (gNew S κ n f a r) (71 + fC S) = a := va_up_self S.2.1 _ a
theorem gNew_R (S : FS) (κ n : Nat) (f a : Nat → Int32) (r : Nat → Option Nat) : fR (gNew S κ n f a r) (71 + fC S) = r := va_up_self S.2.2.2.1 _ r
theorem gNew_N (S : FS) (κ n : Nat) (f a : Nat → Int32) (r : Nat → Option Nat) : fN (gNew S κ n f a r) (71 + fC S) = n := va_up_self S.2.2.2.2.1 _ n
theorem gNew_K (S : FS) (κ n : Nat) (f a : Nat → Int32) (r : Nat → Option Nat) : fK (gNew S κ n f a r) (71 + fC S) = κ := va_up_self S.2.2.2.2.2.1 _ κ
theorem gNew_C (S : FS) (κ n : Nat) (f a : Nat → Int32) (r : Nat → Option Nat) : fC (gNew S κ n f a r) = fC S + 1 := rfl
theorem pk_rng (i : Nat) : (pk i = 3 → 9 ≤ i ∧ i < 12) ∧ (pk i = 4 → 12 ≤ i ∧ i < 15) ∧ (pk i = 7 → 21 ≤ i ∧ i < 39) ∧ (pk i = 12 → i = 61) ∧ (pk i = 16 → 71 ≤ i) := by
  unfold pk
  by_cases c0 : i < 2
  · rw [if_pos c0]
    omega
  rw [if_neg c0]
  by_cases c1 : i < 9
  · rw [if_pos c1]
    omega
  rw [if_neg c1]
  by_cases c2 : i < 12
  · rw [if_pos c2]
    omega
  rw [if_neg c2]
  by_cases c3 : i < 15
  · rw [if_pos c3]
    omega
  rw [if_neg c3]
  by_cases c4 : i < 18
  · rw [if_pos c4]
    omega
  rw [if_neg c4]
  by_cases c5 : i < 21
  · rw [if_pos c5]
    omega
  rw [if_neg c5]
  by_cases c6 : i < 39
  · rw [if_pos c6]
    omega
  rw [if_neg c6]
  by_cases c7 : i < 57
  · rw [if_pos c7]
    omega
  rw [if_neg c7]
  by_cases c8 : i = 57
  · rw [if_pos c8]
    omega
  rw [if_neg c8]
  by_cases c9 : i = 58
  · rw [if_pos c9]
    omega
  rw [if_neg c9]
  by_cases c10 : i < 61
  · rw [if_pos c10]
    omega
  rw [if_neg c10]
  by_cases c11 : i = 61
  · rw [if_pos c11]
    omega
  rw [if_neg c11]
  by_cases c12 : i < 64
  · rw [if_pos c12]
    omega
  rw [if_neg c12]
  by_cases c13 : i = 64
  · rw [if_pos c13]
    omega
  rw [if_neg c13]
  by_cases c14 : i < 71
  · rw [if_pos c14]
    omega
  rw [if_neg c14]
  omega
theorem pk_lt16 {i : Nat} (h : i < 71) : pk i < 16 := by
  unfold pk
  by_cases c0 : i < 2
  · rw [if_pos c0]
    omega
  rw [if_neg c0]
  by_cases c1 : i < 9
  · rw [if_pos c1]
    omega
  rw [if_neg c1]
  by_cases c2 : i < 12
  · rw [if_pos c2]
    omega
  rw [if_neg c2]
  by_cases c3 : i < 15
  · rw [if_pos c3]
    omega
  rw [if_neg c3]
  by_cases c4 : i < 18
  · rw [if_pos c4]
    omega
  rw [if_neg c4]
  by_cases c5 : i < 21
  · rw [if_pos c5]
    omega
  rw [if_neg c5]
  by_cases c6 : i < 39
  · rw [if_pos c6]
    omega
  rw [if_neg c6]
  by_cases c7 : i < 57
  · rw [if_pos c7]
    omega
  rw [if_neg c7]
  by_cases c8 : i = 57
  · rw [if_pos c8]
    omega
  rw [if_neg c8]
  by_cases c9 : i = 58
  · rw [if_pos c9]
    omega
  rw [if_neg c9]
  by_cases c10 : i < 61
  · rw [if_pos c10]
    omega
  rw [if_neg c10]
  by_cases c11 : i = 61
  · rw [if_pos c11]
    omega
  rw [if_neg c11]
  by_cases c12 : i < 64
  · rw [if_pos c12]
    omega
  rw [if_neg c12]
  by_cases c13 : i = 64
  · rw [if_pos c13]
    omega
  rw [if_neg c13]
  by_cases c14 : i < 71
  · rw [if_pos c14]
    omega
  rw [if_neg c14]
  omega
theorem om_congr {r : Option Nat} {f g : Nat → Nat} (h : ∀ p, r = some p → f p = g p) : r.map f = r.map g := by
  cases r with
  | none => rfl
  | some p => exact congrArg some (h p rfl)
theorem cX_congr {G : GG} {ad ad' : Nat → Nat} {S S' : FS} {N j : Nat} (ha : ∀ i, i < N → ad' i = ad i) (h71 : 71 ≤ N) (hF : fF S' j = fF S j) (hA : fA S' j = fA S j) (hL : fL S' j = fL S j) (hR : fR S' j = fR S j) (hN : fN S' j = fN S j) (hK : fK S' j = fK S j) (hr : ∀ k p, (9 ≤ j ∧ j < 12 ∧ k = 7) ∨ (21 ≤ j ∧ j < 39 ∧ k = 2) ∨ (j = 61 ∧ k = 1) ∨ (71 ≤ j ∧ fK S j = 0) → fR S j k = some p → p < N) : cX G ad' S' j = cX G ad S j := by
  unfold cX
  rw [hF, hA, hL, hR, hN, hK]
  unfold cellX
  obtain ⟨r3, r4, r7, r12, r16⟩ := pk_rng j
  have hm : ∀ k, ((9 ≤ j ∧ j < 12 ∧ k = 7) ∨ (21 ≤ j ∧ j < 39 ∧ k = 2) ∨ (j = 61 ∧ k = 1) ∨ (71 ≤ j ∧ fK S j = 0)) → (fR S j k).map ad' = (fR S j k).map ad := fun k hk => om_congr (fun p hp => ha p (hr k p hk hp))
  split
  · rw [ha 1 (by omega), ha 9 (by omega), ha 10 (by omega), ha 11 (by omega), ha 57 (by omega), ha 61 (by omega), ha 62 (by omega), ha 63 (by omega), ha 64 (by omega)]
  · congr 7
    funext k
    by_cases hk : k < 7
    · rw [if_pos hk, if_pos hk, ha _ (by omega)]
    · rw [if_neg hk, if_neg hk]
  · rfl
  · rename_i e
    have := r3 e
    rw [ha _ (by omega), ha _ (by omega), ha _ (by omega), hm 7 (by omega)]
  · rename_i e
    have := r4 e
    congr 7
    funext k
    by_cases hk : k < 6
    · rw [if_pos hk, if_pos hk, ha _ (by omega)]
    · rw [if_neg hk, if_neg hk]
  · rfl
  · rfl
  · rename_i e
    have := r7 e
    rw [ha _ (by omega), hm 2 (by omega)]
  · rfl
  · rw [ha 58 (by omega), ha 59 (by omega), ha 60 (by omega)]
  · rfl
  · rfl
  · rename_i e
    have := r12 e
    cases h : fR S j 1 with
    | none => rfl
    | some p => exact congrArg (fun z => (Sum.inr (1, [Value.int (fF S j 0), Value.ref z, Value.int (fF S j 2)]) : va_E)) (ha p (hr 1 p (by omega) h))
  · rfl
  · congr 7
    funext k
    by_cases hk : k < 6
    · rw [if_pos hk, if_pos hk, ha _ (by omega)]
    · rw [if_neg hk, if_neg hk]
  · rfl
  · unfold dynX
    by_cases hk : fK S j = 0
    · have h16 : 71 ≤ j := by
        by_cases q : 71 ≤ j
        · exact q
        · exfalso
          have e := pk_lt16 (i := j) (by omega)
          rcases (show pk j = 0 ∨ pk j = 1 ∨ pk j = 2 ∨ pk j = 3 ∨ pk j = 4 ∨ pk j = 5 ∨ pk j = 6 ∨ pk j = 7 ∨ pk j = 8 ∨ pk j = 9 ∨ pk j = 10 ∨ pk j = 11 ∨ pk j = 12 ∨ pk j = 13 ∨ pk j = 14 ∨ pk j = 15 by omega) with e0 | e1 | e2 | e3 | e4 | e5 | e6 | e7 | e8 | e9 | e10 | e11 | e12 | e13 | e14 | e15 <;> contradiction
      rw [if_pos hk, if_pos hk, hm 2 (by omega), hm 3 (by omega)]
    · rw [if_neg hk, if_neg hk]
theorem XI.rb {S : FS} (h : XI S) (j k p : Nat) (hj : (9 ≤ j ∧ j < 12 ∧ k = 7) ∨ (21 ≤ j ∧ j < 39 ∧ k = 2) ∨ (j = 61 ∧ k = 1) ∨ (71 ≤ j ∧ fK S j = 0)) (hN : j < 71 + fC S) (hp : fR S j k = some p) : p < 71 + fC S := by
  rcases hj with ⟨a, b, rfl⟩ | ⟨a, b, rfl⟩ | ⟨rfl, rfl⟩ | ⟨a, b⟩
  · obtain ⟨q, h1, h2⟩ := h.ctr (s := j - 9) (by omega)
    rw [show 9 + (j - 9) = j by omega, hp] at h1
    cases h1
    exact h2.2.1
  · obtain ⟨q, h1, h2, h3⟩ := h.kind (k := j - 21) (by omega)
    rw [show 21 + (j - 21) = j by omega, hp] at h1
    cases h1
    omega
  · obtain ⟨z, -, h2⟩ := h.list
    rcases h2 with ⟨h2, -⟩ | ⟨q, h2, h3, h4, -⟩
    · rw [h2] at hp
      cases hp
    · rw [h2] at hp
      cases hp
      exact h4
  · exact h.2.2.2.1.2 j k p a hN b hp
theorem XI.gnew {S : FS} (h : XI S) {κ n : Nat} {f a : Nat → Int32} {r : Nat → Option Nat} (hr : κ = 0 → ∀ k p, r k = some p → p < 71 + fC S + 1) : XI (gNew S κ n f a r) := by
  obtain ⟨h1, h2, h3, h4, h5, h6, h7, h8, h9, h10⟩ := h
  have g : Fr (fun j _ => j = 0 ∧ j = 1) S (gNew S κ n f a r) := gNew_fr
  refine ⟨h1.fr g (by omega), h2.fr g (by omega), h3.fr g (by omega), ⟨fun s hs => ?_, fun p k b p1 p2 p3 p4 => ?_⟩, h5.fr g (by omega) (by omega), h6.fr g (by omega), h7.fr g (by omega), h8.fr g (by omega) (by omega), h9.fr g (by omega), h10.fr g (by omega) (by omega)⟩
  · obtain ⟨p, e1, e2⟩ := h4.1 s hs
    exact ⟨p, (g.R (lt71 (by omega)) (by omega)).trans e1, e2.fr g (by omega)⟩
  · rw [gNew_C] at p2 ⊢
    by_cases e : p = 71 + fC S
    · subst e
      rw [gNew_K] at p3
      rw [gNew_R] at p4
      have := hr p3 k b p4
      omega
    · have p2' : p < 71 + fC S := by omega
      have := h4.2 p k b p1 p2' ((g.K p2').symm.trans p3) ((g.R p2' (by omega)).symm.trans p4)
      omega
/-- a cell is born -/
theorem xb {G : GG} {ad : Nat → Nat} {S : FS} {q : Nat} {c : va_E} {A : Nat → Prop} {H : Heap} (κ n : Nat) (f a : Nat → Int32) (r : Nat → Option Nat) (hX : XI S) (hc : ∀ ad' : Nat → Nat, c = dynX G ad' f a r n κ) (hP : va_P G.1 vwCl (wX G ad S ++ [(q, c)]) H) (hD : va_D A (wX G ad S ++ [(q, c)])) :
    ∃ ad' : Nat → Nat, (∀ j, j < 71 + fC S → ad' j = ad j) ∧ ad' (71 + fC S) = q ∧ va_P G.1 vwCl (wX G ad' (gNew S κ n f a r)) H ∧ va_D A (wX G ad' (gNew S κ n f a r)) := by
  refine ⟨va_up ad (71 + fC S) q, fun j hj => va_up_ne _ _ (by omega), va_up_self _ _ _, ?_⟩
  have g : Fr (fun j _ => j = 0 ∧ j = 1) S (gNew S κ n f a r) := gNew_fr
  have e : wX G ad S ++ [(q, c)] = wX G (va_up ad (71 + fC S) q) (gNew S κ n f a r) := by
    refine ix_push (fun j hj => va_up_ne _ _ (by omega)) (va_up_self _ _ _) (fun j hj => ?_) ?_
    · refine cX_congr (N := 71 + fC S) (fun i hi => va_up_ne _ _ (by omega)) (by omega) ?_ (g.A hj (by omega)) (g.L hj (by omega)) ?_ (g.N hj) (g.K hj) (fun k p hk hp => hX.rb j k p hk hj hp)
      · funext k
        exact g.F hj (by omega)
      · funext k
        exact g.R hj (by omega)
    · rw [cX_dyn (by omega), gNew_F, gNew_A, gNew_R, gNew_N, gNew_K]
      exact (hc _).symm
  rw [← e]
  exact ⟨hP, hD⟩
