/-- which counter holds, by a number kept -/
def HN (nc : Nat) (S : FS) (v : Int32) : Prop := v = -1 ∨ ∃ h : Nat, h < nc ∧ v = nI h ∧ CTh S h
/-- numbers that an image may keep -/
def IMG (nc : Nat) (S : FS) (w : Nat → Int32) : Prop := (∃ n : Nat, w 0 = nI n ∧ n ≤ 6) ∧ (∃ z : Nat, w 3 = nI z ∧ z ≤ 4) ∧ (∃ u : Nat, w 4 = nI u ∧ u ≤ 8 ∧ ∀ i, i < u → ∃ j : Nat, j < 6 ∧ w (81 + i) = nI j) ∧ HN nc S (w 2) ∧ ∀ c, c < 6 → ∃ x : Nat, x ≤ 9999 ∧ w (5 + (12 * c + 6)) = nI x
/-- what the reference's methods want of its state -/
def RI (S : FS) : Prop := (∃ tx : Nat, fF S 0 17 = nI tx ∧ tx ≤ 100) ∧ (∃ tr : Nat, fF S 0 40 = nI tr ∧ tr < 1000) ∧ fF S 0 15 = 0 ∧ TPok S ∧ ∃ nc : Nat, fF S 0 20 = nI nc ∧ nc ≤ 6 ∧ IMG nc S (vec S) ∧ (¬ fF S 0 11 = 0 → IMG nc S (fA S 5))
/-- what the law compares by, as it was -/
def RK (e : Nat) (S S' : FS) : Prop := (∀ k, k = 1 ∨ k = 2 ∨ k = 5 ∨ k = 7 → k ≠ e → fF S' 0 k = fF S 0 k) ∧ fF S' 0 11 = fF S 0 11 ∧ fA S' 5 = fA S 5
theorem rk_trans {e : Nat} {S T U : FS} (h : RK e S T) (k : RK e T U) : RK e S U := ⟨fun j a b => (k.1 j a b).trans (h.1 j a b), k.2.1.trans h.2.1, k.2.2.trans h.2.2⟩
theorem rk_up {e : Nat} {S T : FS} (h : RK 0 S T) : RK e S T := ⟨fun j a _ => h.1 j a (by omega), h.2⟩
theorem cth_c {S T : FS} (e : ∀ i, 7 ≤ i → i ≤ 13 → fA T i = fA S i) {n : Nat} (k : CTh S n) : CTh T n := by
  obtain ⟨z, c, h1, h2, h3, h4, h5⟩ := k
  refine ⟨z, c, h1, h2, by rw [e 8 (by omega) (by omega)]; exact h3, by rw [e 12 (by omega) (by omega)]; exact h4, fun i hi hw => ?_⟩
  rw [e 9 (by omega) (by omega)] at hw
  rw [e 11 (by omega) (by omega), e 7 (by omega) (by omega)]
  exact h5 i hi hw
theorem hn_mono {nc nc' : Nat} {S S' : FS} {v : Int32} (hn : nc ≤ nc') (hc : ∀ h, h < nc → CTh S h → CTh S' h) (k : HN nc S v) : HN nc' S' v := by
  rcases k with k | ⟨h, h1, h2, h3⟩
  · exact Or.inl k
  · exact Or.inr ⟨h, by omega, h2, hc h h1 h3⟩
theorem img_congr {nc nc' : Nat} {S S' : FS} {w w' : Nat → Int32} (hn : nc ≤ nc') (hc : ∀ h, h < nc → CTh S h → CTh S' h) (e : ∀ i, i < 89 → w' i = w i) (k : IMG nc S w) : IMG nc' S' w' := by
  obtain ⟨⟨n, a1, a2⟩, ⟨z, b1, b2⟩, ⟨u, c1, c2, c3⟩, d, f⟩ := k
  refine ⟨⟨n, (e 0 (by omega)).trans a1, a2⟩, ⟨z, (e 3 (by omega)).trans b1, b2⟩, ⟨u, (e 4 (by omega)).trans c1, c2, fun i hi => ?_⟩, ?_, fun c hc2 => ?_⟩
  · obtain ⟨j, hj, ej⟩ := c3 i hi
    exact ⟨j, hj, (e _ (by omega)).trans ej⟩
  · rw [e 2 (by omega)]
    exact hn_mono hn hc d
  · obtain ⟨x, hx, ex⟩ := f c hc2
    exact ⟨x, hx, (e _ (by omega)).trans ex⟩
theorem img_out {nc : Nat} {S : FS} (k : IMG nc S (vec S)) : (∃ n : Nat, fF S 0 1 = nI n ∧ n ≤ 6) ∧ (∃ z : Nat, fF S 0 5 = nI z ∧ z ≤ 4) ∧ (∃ u : Nat, fF S 0 7 = nI u ∧ u ≤ 8 ∧ ∀ i, i < u → ∃ j : Nat, j < 6 ∧ fA S 3 i = nI j) ∧ HN nc S (fF S 0 3) ∧ SV 9999 S := by
  obtain ⟨a, b, ⟨u, c1, c2, c3⟩, d, f⟩ := k
  refine ⟨a, b, ⟨u, c1, c2, fun i hi => ?_⟩, d, fun c hc => ?_⟩
  · obtain ⟨j, hj, ej⟩ := c3 i hi
    exact ⟨j, hj, (vec_co S).symm.trans ej⟩
  · obtain ⟨x, hx, ex⟩ := f c hc
    exact ⟨x, hx, (vec_s S (by omega)).symm.trans ex⟩
theorem img_in {nc : Nat} {S : FS} (a : ∃ n : Nat, fF S 0 1 = nI n ∧ n ≤ 6) (b : ∃ z : Nat, fF S 0 5 = nI z ∧ z ≤ 4) (c : ∃ u : Nat, fF S 0 7 = nI u ∧ u ≤ 8 ∧ ∀ i, i < u → ∃ j : Nat, j < 6 ∧ fA S 3 i = nI j) (d : HN nc S (fF S 0 3)) (f : SV 9999 S) : IMG nc S (vec S) := by
  obtain ⟨u, c1, c2, c3⟩ := c
  refine ⟨a, b, ⟨u, c1, c2, fun i hi => ?_⟩, d, fun c hc => ?_⟩
  · obtain ⟨j, hj, ej⟩ := c3 i hi
    exact ⟨j, hj, (vec_co S).trans ej⟩
  · obtain ⟨x, hx, ex⟩ := f c hc
    exact ⟨x, hx, (vec_s S (by omega)).trans ex⟩
theorem hn_hok {nc : Nat} {S : FS} (hn : nc ≤ 6) (k : HN nc S (fF S 0 3)) : HOK S := by
  rcases k with k | ⟨h, h1, h2, h3⟩
  · exact Or.inl k
  · exact Or.inr ⟨h, by omega, h2, h3⟩
/-- all that a method may want -/
theorem ri_all {S : FS} (h : RI S) : ∃ n z u tx tr nc : Nat, fF S 0 1 = nI n ∧ n ≤ 6 ∧ HOK S ∧ SV 9999 S ∧ fF S 0 15 = 0 ∧ fF S 0 5 = nI z ∧ z ≤ 4 ∧ fF S 0 7 = nI u ∧ u ≤ 8 ∧ (∀ i, i < u → ∃ j, j < 6 ∧ fA S 3 i = nI j) ∧ fF S 0 17 = nI tx ∧ tx ≤ 100 ∧ TPok S ∧ fF S 0 40 = nI tr ∧ tr < 1000 ∧ fF S 0 20 = nI nc ∧ nc ≤ 6 := by
  obtain ⟨⟨tx, a1, a2⟩, ⟨tr, b1, b2⟩, c, d, nc, e1, e2, f, -⟩ := h
  obtain ⟨⟨n, g1, g2⟩, ⟨z, g3, g4⟩, ⟨u, g5, g6, g7⟩, g8, g9⟩ := img_out f
  exact ⟨n, z, u, tx, tr, nc, g1, g2, hn_hok e2 g8, g9, c, g3, g4, g5, g6, g7, a1, a2, d, b1, b2, e1, e2⟩
theorem ri_gen {S S' : FS} (h : RI S) (f : ∀ k, k = 3 ∨ k = 11 ∨ k = 20 → fF S' 0 k = fF S 0 k) (h15 : fF S' 0 15 = 0) (a : ∀ i, 7 ≤ i → i ≤ 13 → fA S' i = fA S i) (a5 : fA S' 5 = fA S 5) (h17 : ∃ tx : Nat, fF S' 0 17 = nI tx ∧ tx ≤ 100) (h40 : ∃ tr : Nat, fF S' 0 40 = nI tr ∧ tr < 1000) (hTP : TPok S')
    (h1 : ∃ n : Nat, fF S' 0 1 = nI n ∧ n ≤ 6) (h5 : ∃ z : Nat, fF S' 0 5 = nI z ∧ z ≤ 4) (h7 : ∃ u : Nat, fF S' 0 7 = nI u ∧ u ≤ 8 ∧ ∀ i, i < u → ∃ j : Nat, j < 6 ∧ fA S' 3 i = nI j) (h6 : SV 9999 S') : RI S' := by
  obtain ⟨-, -, -, -, nc, e1, e2, g, k⟩ := h
  have hc : ∀ h, h < nc → CTh S h → CTh S' h := fun _ _ => cth_c a
  refine ⟨h17, h40, h15, hTP, nc, (f 20 (by omega)).trans e1, e2, img_in h1 h5 h7 ?_ h6, fun q => ?_⟩
  · rw [f 3 (by omega)]
    exact hn_mono (Nat.le_refl _) hc (img_out g).2.2.2.1
  · rw [f 11 (by omega)] at q
    rw [a5]
    exact img_congr (Nat.le_refl _) hc (fun _ _ => rfl) (k q)
/-- nothing that counts has changed -/
theorem ri_step {S S' : FS} (h : RI S) (f : ∀ k, k = 1 ∨ k = 2 ∨ k = 3 ∨ k = 5 ∨ k = 7 ∨ k = 11 ∨ k = 17 ∨ k = 20 ∨ k = 40 → fF S' 0 k = fF S 0 k) (h15 : fF S' 0 15 = 0) (a : ∀ i, i = 5 ∨ (7 ≤ i ∧ i ≤ 13) ∨ i = 19 → fA S' i = fA S i) (a3 : ∀ i, i < 8 → fA S' 3 i = fA S 3 i) (a1 : ∀ c, c < 6 → fA S' 1 (12 * c + 6) = fA S 1 (12 * c + 6)) : RI S' ∧ RK 0 S S' := by
  refine ⟨?_, fun k q _ => f k (by omega), f 11 (by omega), a 5 (by omega)⟩
  obtain ⟨n, z, u, tx, tr, nc, g1, g2, -, g9, -, g3, g4, g5, g6, g7, x1, x2, d, b1, b2, -, -⟩ := ri_all h
  refine ri_gen h (fun k q => f k (by omega)) h15 (fun i p q => a i (by omega)) (a 5 (by omega)) ⟨tx, (f 17 (by omega)).trans x1, x2⟩ ⟨tr, (f 40 (by omega)).trans b1, b2⟩ ?_ ⟨n, (f 1 (by omega)).trans g1, g2⟩ ⟨z, (f 5 (by omega)).trans g3, g4⟩ ⟨u, (f 7 (by omega)).trans g5, g6, fun i hi => ?_⟩ (fun c hc => ?_)
  · intro t ht
    rw [a 19 (by omega)]
    exact d t ht
  · rw [a3 i (by omega)]
    exact g7 i hi
  · rw [a1 c hc]
    exact g9 c hc
theorem ri_15 {S : FS} (h : RI S) : fF S 0 15 = 0 := h.2.2.1
theorem ri_F {S : FS} (h : RI S) {k : Nat} (v : Int32) (hk : k = 8 ∨ 21 ≤ k ∧ k ≠ 40) : RI (setF S 0 k v) ∧ RK 0 S (setF S 0 k v) :=
  ri_step h (fun j q => by rw [fF_setF, if_neg (by omega)]) (by rw [fF_setF, if_neg (by omega)]; exact ri_15 h) (fun _ _ => rfl) (fun _ _ => rfl) (fun _ _ => rfl)
theorem ri_8 {S : FS} (h : RI S) : RI (setF S 0 8 0) ∧ RK 0 S (setF S 0 8 0) := ri_F h 0 (by omega)
theorem ri_H {S S' : FS} (h : RI S) (k : HFr (setF S 0 8 0) S') : RI S' ∧ RK 0 S S' := by
  obtain ⟨h8, k8⟩ := ri_8 h
  obtain ⟨a, b⟩ := ri_step (S' := S') h8 (fun j _ => k.2.2.1 j) ((k.2.2.1 15).trans (ri_15 h8)) (fun i _ => k.2.2.2 i (by omega) (by omega) (by omega)) (fun i _ => by rw [k.2.2.2 3 (by omega) (by omega) (by omega)]) (fun c _ => by rw [k.2.2.2 1 (by omega) (by omega) (by omega)])
  exact ⟨a, rk_trans k8 b⟩
theorem ri_Q {S S' : FS} (h : RI S) (k : QP (setF S 0 8 0) S') : RI S' ∧ RK 0 S S' := by
  obtain ⟨h8, k8⟩ := ri_8 h
  obtain ⟨-, k1, k2, k3, -, k4, k5⟩ := k
  obtain ⟨a, b⟩ := ri_step (S' := S') h8 (fun j _ => k1 j (by omega) (by omega) (by omega) (by omega)) k2 (fun i _ => k3 i (by omega) (by omega) (by omega) (by omega) (by omega) (by omega) (by omega)) k4 (fun c _ => k5 _ (by omega))
  exact ⟨a, rk_trans k8 b⟩
theorem ri_M {S S' : FS} (h : RI S) (k : MO (setF S 0 8 0) S' ∧ SV 9999 S') : RI S' ∧ RK 0 S S' := by
  obtain ⟨h8, k8⟩ := ri_8 h
  obtain ⟨⟨-, -, k1, k2, -⟩, k4⟩ := k
  have f : ∀ j, j < 33 ∨ 38 < j → fF S' 0 j = fF (setF S 0 8 0) 0 j := fun j _ => k1 j (by omega) (by omega) (by omega) (by omega) (by omega) (by omega)
  have a : ∀ i, 2 ≤ i → i < 14 ∨ 16 < i → fA S' i = fA (setF S 0 8 0) i := fun i _ _ => k2 i (by omega) (by omega) (by omega) (by omega)
  obtain ⟨n, z, u, tx, tr, nc, g1, g2, -, g9, g0, g3, g4, g5, g6, g7, x1, x2, d, b1, b2, -, -⟩ := ri_all h8
  refine ⟨ri_gen h8 (fun j _ => f j (by omega)) ((f 15 (by omega)).trans g0) (fun i _ _ => a i (by omega) (by omega)) (a 5 (by omega) (by omega)) ⟨tx, (f 17 (by omega)).trans x1, x2⟩ ⟨tr, (f 40 (by omega)).trans b1, b2⟩ (fun t ht => ?_) ⟨n, (f 1 (by omega)).trans g1, g2⟩ ⟨z, (f 5 (by omega)).trans g3, g4⟩ ⟨u, (f 7 (by omega)).trans g5, g6, fun i hi => ?_⟩ k4, rk_trans k8 ⟨fun j _ _ => f j (by omega), f 11 (by omega), a 5 (by omega) (by omega)⟩⟩
  · rw [a 19 (by omega) (by omega)]
    exact d t ht
  · rw [a 3 (by omega) (by omega)]
    exact g7 i hi
theorem ri_E {S S' : FS} (h : RI S) (k : S' = setF S 0 8 0) : RI S' ∧ RK 0 S S' := k ▸ ri_8 h
theorem ri_A1 {S : FS} (h : RI S) {k : Nat} (v : Int32) (hk : k % 12 ≠ 6) : RI (setA S 1 (upd (fA S 1) k v)) ∧ RK 0 S (setA S 1 (upd (fA S 1) k v)) :=
  ri_step h (fun j _ => rfl) (ri_15 (S := S) h) (fun i _ => by rw [fA_setA, if_neg (by omega)]) (fun i _ => by rw [fA_setA, if_neg (by omega)]) (fun c _ => by rw [fA_setA, if_pos rfl, pk_un (by omega)])
theorem slw_c (w : Int32) : slw w = 2 ∨ slw w = 3 ∨ slw w = 4 ∨ slw w = 7 := by
  unfold slw
  split
  · exact Or.inl rfl
  · split
    · exact Or.inr (Or.inl rfl)
    · split
      · exact Or.inr (Or.inr (Or.inl rfl))
      · exact Or.inr (Or.inr (Or.inr rfl))
theorem ri_set {S S' : FS} (h : RI S) {P1 P2 P3 : Prop} [Decidable P1] [Decidable P2] [Decidable P3] {j : Nat} (hj : j % 12 ≠ 6) {n_ : Int32} (k : S' = (if P1 then if P2 then if P3 then setA (setF S 0 8 0) 1 (upd (fA S 1) j n_) else (setF S 0 8 0) else (setF S 0 8 0) else (setF S 0 8 0))) : RI S' ∧ RK 0 S S' := by
  subst k
  have h8 := ri_8 h
  obtain ⟨a, b⟩ := ri_A1 h8.1 (k := j) n_ hj
  split
  · split
    · split
      · exact ⟨a, rk_trans h8.2 b⟩
      · exact h8
    · exact h8
  · exact h8
theorem slw_m (c what : Int32) : (12 * c.toNatClampNeg + slw what) % 12 ≠ 6 := by
  have := slw_c what
  omega
theorem ri_row {S S' : FS} (h : RI S) {c part n_ : Int32} (k : S' = (if (0 ≤ c ∧ c ≤ fF S 0 1 - 1) then if 0 ≤ part ∧ part ≤ 3 then if 0 ≤ n_ ∧ n_ ≤ 9 then if fA S 1 (12 * c.toNatClampNeg + 0) = 6 then setA (setF S 0 8 0) 1 (upd (fA S 1) (12 * c.toNatClampNeg + (8 + part.toNatClampNeg)) n_) else (setF S 0 8 0) else (setF S 0 8 0) else (setF S 0 8 0) else (setF S 0 8 0))) : RI S' ∧ RK 0 S S' := by
  subst k
  have h8 := ri_8 h
  by_cases p1 : 0 ≤ c ∧ c ≤ fF S 0 1 - 1
  · rw [if_pos p1]
    by_cases p2 : 0 ≤ part ∧ part ≤ 3
    · rw [if_pos p2]
      split
      · split
        · have hs := (in_n (b := 3) p2 (by omega)).1
          obtain ⟨a, b⟩ := ri_A1 h8.1 (k := 12 * c.toNatClampNeg + (8 + part.toNatClampNeg)) n_ (by omega)
          exact ⟨a, rk_trans h8.2 b⟩
        · exact h8
      · exact h8
    · rw [if_neg p2]
      exact h8
  · rw [if_neg p1]
    exact h8
theorem ri_feed {S S' : FS} (h : RI S) {z : Nat} (hz : fF S 0 17 = nI z) (hz1 : z ≤ 100) {sign : Int32} (k : S' = (if 0 ≤ sign ∧ sign ≤ 127 then if fF S 0 17 = 100 then (setF S 0 8 0) else setF (setA (setF S 0 8 0) 6 (upd (fA S 6) z sign)) 0 17 (fF S 0 17 + 1) else (setF S 0 8 0))) : RI S' ∧ RK 0 S S' := by
  subst k
  have h8 := ri_8 h
  split
  · by_cases p : fF S 0 17 = 100
    · rw [if_pos p]
      exact h8
    · rw [if_neg p]
      have hz2 : z ≠ 100 := fun e => p (by rw [hz, e]; rfl)
      obtain ⟨n, z', u, tx, tr, nc, g1, g2, -, g9, g0, g3, g4, g5, g6, g7, x1, x2, d, b1, b2, -, -⟩ := ri_all h
      exact ⟨ri_gen h (fun j q => by rw [fF_setF, if_neg (by omega), fF_setA, fF_setF, if_neg (by omega)]) (by rw [fF_setF, if_neg (by omega), fF_setA, fF_setF, if_neg (by omega)]; exact g0) (fun i _ _ => by rw [fA_setF, fA_setA, if_neg (by omega), fA_setF]) (by rw [fA_setF, fA_setA, if_neg (by omega), fA_setF]) ⟨z + 1, by rw [fF_setF, if_pos ⟨rfl, rfl⟩, hz, nI_succ], by omega⟩ ⟨tr, by rw [fF_setF, if_neg (by omega), fF_setA, fF_setF, if_neg (by omega)]; exact b1, b2⟩ d ⟨n, by rw [fF_setF, if_neg (by omega), fF_setA, fF_setF, if_neg (by omega)]; exact g1, g2⟩ ⟨z', by rw [fF_setF, if_neg (by omega), fF_setA, fF_setF, if_neg (by omega)]; exact g3, g4⟩ ⟨u, by rw [fF_setF, if_neg (by omega), fF_setA, fF_setF, if_neg (by omega)]; exact g5, g6, g7⟩ g9, fun j q _ => by rw [fF_setF, if_neg (by omega), fF_setA, fF_setF, if_neg (by omega)], by rw [fF_setF, if_neg (by omega), fF_setA, fF_setF, if_neg (by omega)], rfl⟩
  · exact h8
theorem ri_2 {S : FS} (h : RI S) (v : Int32) : RI (setF S 0 2 v) ∧ RK 2 S (setF S 0 2 v) := by
  obtain ⟨n, z', u, tx, tr, nc, g1, g2, -, g9, g0, g3, g4, g5, g6, g7, x1, x2, d, b1, b2, -, -⟩ := ri_all h
  exact ⟨ri_gen h (fun j q => by rw [fF_setF, if_neg (by omega)]) (by rw [fF_setF, if_neg (by omega)]; exact g0) (fun i _ _ => rfl) rfl ⟨tx, by rw [fF_setF, if_neg (by omega)]; exact x1, x2⟩ ⟨tr, by rw [fF_setF, if_neg (by omega)]; exact b1, b2⟩ d ⟨n, by rw [fF_setF, if_neg (by omega)]; exact g1, g2⟩ ⟨z', by rw [fF_setF, if_neg (by omega)]; exact g3, g4⟩ ⟨u, by rw [fF_setF, if_neg (by omega)]; exact g5, g6, g7⟩ g9, fun j q q2 => by rw [fF_setF, if_neg (by omega)], by rw [fF_setF, if_neg (by omega)], rfl⟩
theorem ri_knife {S S' : FS} (h : RI S) {n : Int32} (k : S' = (if 0 ≤ n ∧ n ≤ 30 then setF (setF S 0 8 0) 0 2 n else (setF S 0 8 0))) : RI S' ∧ RK 2 S S' := by
  subst k
  have h8 := ri_8 h
  split
  · obtain ⟨a, b⟩ := ri_2 h8.1 n
    exact ⟨a, rk_trans (rk_up h8.2) b⟩
  · exact ⟨h8.1, rk_up h8.2⟩
theorem ri_5 {S : FS} (h : RI S) {z : Nat} (hz : z ≤ 4) : RI (setF S 0 5 (nI z)) ∧ RK 5 S (setF S 0 5 (nI z)) := by
  obtain ⟨n, z', u, tx, tr, nc, g1, g2, -, g9, g0, g3, g4, g5, g6, g7, x1, x2, d, b1, b2, -, -⟩ := ri_all h
  exact ⟨ri_gen h (fun j q => by rw [fF_setF, if_neg (by omega)]) (by rw [fF_setF, if_neg (by omega)]; exact g0) (fun i _ _ => rfl) rfl ⟨tx, by rw [fF_setF, if_neg (by omega)]; exact x1, x2⟩ ⟨tr, by rw [fF_setF, if_neg (by omega)]; exact b1, b2⟩ d ⟨n, by rw [fF_setF, if_neg (by omega)]; exact g1, g2⟩ ⟨z, by rw [fF_setF, if_pos ⟨rfl, rfl⟩], hz⟩ ⟨u, by rw [fF_setF, if_neg (by omega)]; exact g5, g6, g7⟩ g9, fun j q q2 => by rw [fF_setF, if_neg (by omega)], by rw [fF_setF, if_neg (by omega)], rfl⟩
theorem ri_A2 {S : FS} (h : RI S) (f : Nat → Int32) {j : Nat} (hj : j = 2 ∨ j = 6 ∨ j = 17 ∨ j = 18 ∨ j = 22) : RI (setA S j f) ∧ RK 0 S (setA S j f) :=
  ri_step h (fun j _ => rfl) (ri_15 (S := S) h) (fun i _ => by rw [fA_setA, if_neg (by omega)]) (fun i _ => by rw [fA_setA, if_neg (by omega)]) (fun c _ => by rw [fA_setA, if_neg (by omega)])
theorem ri_see {S S' : FS} (h : RI S) {z : Nat} (hz : fF S 0 5 = nI z) (hz1 : z ≤ 4) {c : Int32} (k : S' = (if c = -1 then setF (setF S 0 8 0) 0 5 0 else if 0 ≤ c ∧ c ≤ 999 then if fF S 0 5 = 4 then (setF S 0 8 0) else setF (setA (setF S 0 8 0) 2 (upd (fA S 2) z c)) 0 5 (fF S 0 5 + 1) else (setF S 0 8 0))) : RI S' ∧ RK 5 S S' := by
  subst k
  have h8 := ri_8 h
  split
  · obtain ⟨a, b⟩ := ri_5 h8.1 (z := 0) (by omega)
    exact ⟨a, rk_trans (rk_up h8.2) b⟩
  · split
    · by_cases p : fF S 0 5 = 4
      · rw [if_pos p]
        exact ⟨h8.1, rk_up h8.2⟩
      · rw [if_neg p]
        have hz2 : z ≠ 4 := fun e => p (by rw [hz, e]; rfl)
        obtain ⟨a, b⟩ := ri_A2 h8.1 (upd (fA S 2) z c) (j := 2) (by omega)
        obtain ⟨a', b'⟩ := ri_5 a (z := z + 1) (by omega)
        rw [hz, ← nI_succ]
        exact ⟨a', rk_trans (rk_up h8.2) (rk_trans (rk_up b) b')⟩
    · exact ⟨h8.1, rk_up h8.2⟩
theorem ri_7 {S : FS} (h : RI S) {u : Nat} (hu : u ≤ 8) {f : Nat → Int32} (hf : ∀ i, i < u → ∃ j : Nat, j < 6 ∧ f i = nI j) : RI (setF (setA S 3 f) 0 7 (nI u)) ∧ RK 7 S (setF (setA S 3 f) 0 7 (nI u)) := by
  obtain ⟨n, z', u', tx, tr, nc, g1, g2, -, g9, g0, g3, g4, g5, g6, g7, x1, x2, d, b1, b2, -, -⟩ := ri_all h
  refine ⟨ri_gen h (fun j q => by rw [fF_setF, if_neg (by omega), fF_setA]) (by rw [fF_setF, if_neg (by omega), fF_setA]; exact g0) (fun i _ _ => by rw [fA_setF, fA_setA, if_neg (by omega)]) (by rw [fA_setF, fA_setA, if_neg (by omega)]) ⟨tx, by rw [fF_setF, if_neg (by omega), fF_setA]; exact x1, x2⟩ ⟨tr, by rw [fF_setF, if_neg (by omega), fF_setA]; exact b1, b2⟩ (fun t ht => by rw [fA_setF, fA_setA, if_neg (by omega)]; exact d t ht) ⟨n, by rw [fF_setF, if_neg (by omega), fF_setA]; exact g1, g2⟩ ⟨z', by rw [fF_setF, if_neg (by omega), fF_setA]; exact g3, g4⟩ ⟨u, by rw [fF_setF, if_pos ⟨rfl, rfl⟩], hu, fun i hi => by rw [fA_setF, fA_setA, if_pos rfl]; exact hf i hi⟩ (fun c hc => by rw [fA_setF, fA_setA, if_neg (by omega)]; exact g9 c hc), fun j q q2 => by rw [fF_setF, if_neg (by omega), fF_setA], by rw [fF_setF, if_neg (by omega), fF_setA], by rw [fA_setF, fA_setA, if_neg (by omega)]⟩
theorem ri_70 {S : FS} (h : RI S) : RI (setF S 0 7 0) ∧ RK 7 S (setF S 0 7 0) := by
  obtain ⟨n, z', u', tx, tr, nc, g1, g2, -, g9, g0, g3, g4, g5, g6, g7, x1, x2, d, b1, b2, -, -⟩ := ri_all h
  exact ⟨ri_gen h (fun j q => by rw [fF_setF, if_neg (by omega)]) (by rw [fF_setF, if_neg (by omega)]; exact g0) (fun i _ _ => rfl) rfl ⟨tx, by rw [fF_setF, if_neg (by omega)]; exact x1, x2⟩ ⟨tr, by rw [fF_setF, if_neg (by omega)]; exact b1, b2⟩ d ⟨n, by rw [fF_setF, if_neg (by omega)]; exact g1, g2⟩ ⟨z', by rw [fF_setF, if_neg (by omega)]; exact g3, g4⟩ ⟨0, by rw [fF_setF, if_pos ⟨rfl, rfl⟩]; rfl, by omega, fun i hi => absurd hi (by omega)⟩ g9, fun j q q2 => by rw [fF_setF, if_neg (by omega)], by rw [fF_setF, if_neg (by omega)], rfl⟩
theorem ri_book {S S' : FS} (h : RI S) {n z : Nat} (hn : fF S 0 1 = nI n) (hn6 : n ≤ 6) (hz : fF S 0 7 = nI z) (hz1 : z ≤ 8) {c : Int32} (k : S' = (if c = -1 then setF (setF S 0 8 0) 0 7 0 else if (0 ≤ c ∧ c ≤ fF S 0 1 - 1) then if fF S 0 7 = 8 then (setF S 0 8 0) else setF (setA (setF S 0 8 0) 3 (upd (fA S 3) z c)) 0 7 (fF S 0 7 + 1) else (setF S 0 8 0))) : RI S' ∧ RK 7 S S' := by
  subst k
  have h8 := ri_8 h
  split
  · obtain ⟨a, b⟩ := ri_70 h8.1
    exact ⟨a, rk_trans (rk_up h8.2) b⟩
  · by_cases q : 0 ≤ c ∧ c ≤ fF S 0 1 - 1
    · rw [if_pos q]
      by_cases p : fF S 0 7 = 8
      · rw [if_pos p]
        exact ⟨h8.1, rk_up h8.2⟩
      · rw [if_neg p]
        have hz2 : z ≠ 8 := fun e => p (by rw [hz, e]; rfl)
        obtain ⟨j, hj, rfl⟩ := isC_t q hn hn6
        obtain ⟨-, -, -, -, nc, -, -, g, -⟩ := h
        obtain ⟨-, -, ⟨u, g5, g6, g7⟩, -, -⟩ := img_out g
        have eu : u = z := (nI_eq (by omega) (by omega)).mp (g5.symm.trans hz)
        subst eu
        obtain ⟨a, b⟩ := ri_7 h8.1 (u := u + 1) (by omega) (f := upd (fA S 3) u (nI j)) (fun i hi => by
          by_cases e : i = u
          · subst e
            exact ⟨j, by omega, pk_us⟩
          · rw [pk_un e]
            exact g7 i (by omega))
        rw [hz, ← nI_succ]
        exact ⟨a, rk_trans (rk_up h8.2) b⟩
    · rw [if_neg q]
      exact ⟨h8.1, rk_up h8.2⟩
theorem ri_40 {S : FS} (h : RI S) {t : Nat} (ht : t < 1000) : RI (setF S 0 40 (nI t)) ∧ RK 0 S (setF S 0 40 (nI t)) := by
  obtain ⟨n, z', u, tx, tr, nc, g1, g2, -, g9, g0, g3, g4, g5, g6, g7, x1, x2, d, b1, b2, -, -⟩ := ri_all h
  exact ⟨ri_gen h (fun j q => by rw [fF_setF, if_neg (by omega)]) (by rw [fF_setF, if_neg (by omega)]; exact g0) (fun i _ _ => rfl) rfl ⟨tx, by rw [fF_setF, if_neg (by omega)]; exact x1, x2⟩ ⟨t, by rw [fF_setF, if_pos ⟨rfl, rfl⟩], ht⟩ d ⟨n, by rw [fF_setF, if_neg (by omega)]; exact g1, g2⟩ ⟨z', by rw [fF_setF, if_neg (by omega)]; exact g3, g4⟩ ⟨u, by rw [fF_setF, if_neg (by omega)]; exact g5, g6, g7⟩ g9, fun j q q2 => by rw [fF_setF, if_neg (by omega)], by rw [fF_setF, if_neg (by omega)], rfl⟩
theorem ri_ntl (bs : List Int32) : ∀ (t : Nat) (S : FS), t + bs.length < 1000 → RI S → RI (ntl t S bs) ∧ RK 0 S (ntl t S bs) := by
  induction bs with
  | nil => exact fun t S _ h => ⟨h, fun _ _ _ => rfl, rfl, rfl⟩
  | cons b bs ih =>
    intro t S ht h
    have ht' : t + 1 + bs.length < 1000 := by
      have : (b :: bs).length = bs.length + 1 := rfl
      omega
    have h1 : RI (ntS t S b) ∧ RK 0 S (ntS t S b) := by
      unfold ntS
      split
      · obtain ⟨a, k⟩ := ri_A2 h (upd (fA S 17) t b) (j := 17) (by omega)
        obtain ⟨a', k'⟩ := ri_40 a (t := t + 1) (by omega)
        exact ⟨a', rk_trans k k'⟩
      · exact ri_40 h (by omega)
    obtain ⟨a, k⟩ := ih (t + 1) (ntS t S b) ht' h1.1
    exact ⟨a, rk_trans h1.2 k⟩
theorem ri_act {S S' : FS} (h : RI S) {P : Prop} {c : Int32} {k v : Int32} {bs : List Int32} (hb : bs.length ≤ 12) (e : (¬ P ∧ S' = (setF (setF S 0 8 0) 0 40 0)) ∨ (P ∧ S' = ntl 0 (setF (setF (setF (setF (setF S 0 8 0) 0 40 0) 0 41 k) 0 42 v) 0 43 c) bs)) : RI S' ∧ RK 0 S S' := by
  have h8 := ri_8 h
  obtain ⟨a1, b1⟩ := ri_40 h8.1 (t := 0) (by omega)
  rcases e with ⟨-, rfl⟩ | ⟨-, rfl⟩
  · exact ⟨a1, rk_trans h8.2 b1⟩
  · obtain ⟨a2, b2⟩ := ri_F a1 (k := 41) k (by omega)
    obtain ⟨a3, b3⟩ := ri_F a2 (k := 42) v (by omega)
    obtain ⟨a4, b4⟩ := ri_F a3 (k := 43) c (by omega)
    obtain ⟨a5, b5⟩ := ri_ntl bs 0 _ (by omega) a4
    exact ⟨a5, rk_trans h8.2 (rk_trans b1 (rk_trans b2 (rk_trans b3 (rk_trans b4 b5))))⟩
theorem ri_L {S : FS} (h : RI S) (j : Nat) (f : Nat → Int64) : RI (setL S j f) ∧ RK 0 S (setL S j f) :=
  ri_step h (fun _ _ => rfl) (ri_15 h) (fun _ _ => rfl) (fun _ _ => rfl) (fun _ _ => rfl)
theorem ri_19 {S : FS} (h : RI S) {t : Nat} {v : Int32} (hv : ∃ m : Nat, m ≤ 60 ∧ v = nI m) : RI (setA S 19 (upd (fA S 19) t v)) ∧ RK 0 S (setA S 19 (upd (fA S 19) t v)) := by
  obtain ⟨n, z', u, tx, tr, nc, g1, g2, -, g9, g0, g3, g4, g5, g6, g7, x1, x2, d, b1, b2, -, -⟩ := ri_all h
  refine ⟨ri_gen h (fun j q => rfl) g0 (fun i _ _ => by rw [fA_setA, if_neg (by omega)]) (by rw [fA_setA, if_neg (by omega)]) ⟨tx, x1, x2⟩ ⟨tr, b1, b2⟩ (fun i hi => ?_) ⟨n, g1, g2⟩ ⟨z', g3, g4⟩ ⟨u, g5, g6, g7⟩ g9, fun _ _ _ => rfl, rfl, by rw [fA_setA, if_neg (by omega)]⟩
  rw [fA_setA, if_pos rfl]
  by_cases e : i = t
  · subst e
    rw [pk_us]
    exact hv
  · rw [pk_un e]
    exact d i hi
theorem ri_tp {S : FS} (h : RI S) {t : Nat} {a b v : Int32} (f : Nat → Int64) (hv : ∃ m : Nat, m ≤ 60 ∧ v = nI m) : RI (setL (setA (setA (setA (setF S 0 8 0) 22 (upd (fA S 22) t a)) 18 (upd (fA S 18) t b)) 19 (upd (fA S 19) t v)) 20 f) ∧ RK 0 S (setL (setA (setA (setA (setF S 0 8 0) 22 (upd (fA S 22) t a)) 18 (upd (fA S 18) t b)) 19 (upd (fA S 19) t v)) 20 f) := by
  have h8 := ri_8 h
  obtain ⟨a1, b1⟩ := ri_A2 h8.1 (upd (fA S 22) t a) (j := 22) (by omega)
  obtain ⟨a2, b2⟩ := ri_A2 a1 (upd (fA S 18) t b) (j := 18) (by omega)
  obtain ⟨a3, b3⟩ := ri_19 a2 (t := t) hv
  obtain ⟨a4, b4⟩ := ri_L a3 20 f
  exact ⟨a4, rk_trans h8.2 (rk_trans b1 (rk_trans b2 (rk_trans b3 b4)))⟩
theorem ri_tape {S S' : FS} (h : RI S) {t sort n : Int32} (k : S' = (if (0 ≤ t ∧ t ≤ 5) then if -1 ≤ sort ∧ sort ≤ 4 then if sort < 0 then (setL (setA (setA (setA (setF S 0 8 0) 22 (upd (fA S 22) t.toNatClampNeg 0)) 18 (upd (fA S 18) t.toNatClampNeg sort)) 19 (upd (fA S 19) t.toNatClampNeg 0)) 20 (zr (fL S 20) t.toNatClampNeg 60)) else if n ≤ 60 then if n < 0 then (setF S 0 8 0) else (setL (setA (setA (setA (setF S 0 8 0) 22 (upd (fA S 22) t.toNatClampNeg 1)) 18 (upd (fA S 18) t.toNatClampNeg sort)) 19 (upd (fA S 19) t.toNatClampNeg n)) 20 (zr (fL S 20) t.toNatClampNeg 60)) else (setF S 0 8 0) else (setF S 0 8 0) else (setF S 0 8 0))) : RI S' ∧ RK 0 S S' := by
  subst k
  have h8 := ri_8 h
  split
  · split
    · split
      · exact ri_tp h _ ⟨0, by omega, rfl⟩
      · by_cases p : n ≤ 60
        · rw [if_pos p]
          by_cases q : n < 0
          · rw [if_pos q]
            exact h8
          · rw [if_neg q]
            obtain ⟨m, hm, e⟩ := in_t (c := n) (b := 60) ⟨Int32.not_lt.mp q, p⟩ (by omega)
            exact ri_tp h _ ⟨m, hm, e⟩
        · rw [if_neg p]
          exact h8
    · exact h8
  · exact h8
theorem ri_item {S S' : FS} (h : RI S) {P1 P2 P3 : Prop} [Decidable P1] [Decidable P2] [Decidable P3] {f : Nat → Int64} (k : S' = (if P1 then if P2 then (setF S 0 8 0) else if P3 then setL (setF S 0 8 0) 20 f else (setF S 0 8 0) else (setF S 0 8 0))) : RI S' ∧ RK 0 S S' := by
  subst k
  have h8 := ri_8 h
  obtain ⟨a, b⟩ := ri_L h8.1 20 f
  split
  · split
    · exact h8
    · split
      · exact ⟨a, rk_trans h8.2 b⟩
      · exact h8
  · exact h8
theorem ri_shift {S S' : FS} (h : RI S) {P : Prop} {f : Nat → Int64} {P2 P3 P4 P5 P6 P7 : Prop} (k : (P ∧ P2 ∧ P3 ∧ P4 ∧ P5 ∧ P6 ∧ ∃ cp, S' = setL (setL (setF S 0 8 0) 21 cp) 20 f) ∨ (P7 ∧ S' = setF S 0 8 0)) : RI S' ∧ RK 0 S S' := by
  have h8 := ri_8 h
  rcases k with ⟨-, -, -, -, -, -, cp, rfl⟩ | ⟨-, rfl⟩
  · obtain ⟨a, b⟩ := ri_L h8.1 21 cp
    obtain ⟨a', b'⟩ := ri_L a 20 f
    exact ⟨a', rk_trans h8.2 (rk_trans b b')⟩
  · exact h8
theorem ri_cnt {S S' : FS} (h : RI S) {nc : Nat} (hnc : fF S 0 20 = nI nc) (hnc6 : nc ≤ 6) (k : CNT nc S S') : RI S' ∧ RK 0 S S' := by
  obtain ⟨⟨tx, x1, x2⟩, ⟨tr, b1, b2⟩, g0, d, nc', e1, e2, g, gi⟩ := h
  have en : nc' = nc := (nI_eq (by omega) (by omega)).mp (e1.symm.trans hnc)
  subst en
  obtain ⟨-, -, k1, k2, k3, k4, k5⟩ := k
  have f : ∀ j, j ≠ 3 → j ≠ 17 → j ≠ 20 → (j < 25 ∧ j ≠ 8) ∨ 29 < j → fF S' 0 j = fF S 0 j := fun j _ _ _ _ => k1 j (by omega) (by omega) (by omega) (by omega) (by omega) (by omega) (by omega) (by omega)
  have a : ∀ i, i < 7 ∨ 13 < i → fA S' i = fA S i := fun i _ => k2 i (by omega) (by omega) (by omega) (by omega) (by omega) (by omega) (by omega)
  obtain ⟨⟨n, g1, g2⟩, ⟨z, g3, g4⟩, ⟨u, g5, g6, g7⟩, g8, g9⟩ := img_out g
  have h17 : ∃ tx : Nat, fF S' 0 17 = nI tx ∧ tx ≤ 100 := by
    rcases k5 with k5 | k5
    · exact ⟨0, k5, by omega⟩
    · exact ⟨tx, k5.trans x1, x2⟩
  have hTP : TPok S' := fun t ht => by
    rw [a 19 (by omega)]
    exact d t ht
  have i1 : ∃ n : Nat, fF S' 0 1 = nI n ∧ n ≤ 6 := ⟨n, (f 1 (by omega) (by omega) (by omega) (by omega)).trans g1, g2⟩
  have i5 : ∃ z : Nat, fF S' 0 5 = nI z ∧ z ≤ 4 := ⟨z, (f 5 (by omega) (by omega) (by omega) (by omega)).trans g3, g4⟩
  have i7 : ∃ u : Nat, fF S' 0 7 = nI u ∧ u ≤ 8 ∧ ∀ i, i < u → ∃ j : Nat, j < 6 ∧ fA S' 3 i = nI j := ⟨u, (f 7 (by omega) (by omega) (by omega) (by omega)).trans g5, g6, fun i hi => by rw [a 3 (by omega)]; exact g7 i hi⟩
  have i6 : SV 9999 S' := fun c hc => by
    rw [a 1 (by omega)]
    exact g9 c hc
  have hRK : RK 0 S S' := ⟨fun j _ _ => f j (by omega) (by omega) (by omega) (by omega), f 11 (by omega) (by omega) (by omega) (by omega), a 5 (by omega)⟩
  rcases k4 with ⟨e20, e3⟩ | ⟨hlt, e20, e3, hC⟩
  · refine ⟨⟨h17, ⟨tr, (f 40 (by omega) (by omega) (by omega) (by omega)).trans b1, b2⟩, (f 15 (by omega) (by omega) (by omega) (by omega)).trans g0, hTP, nc', e20, e2, img_in i1 i5 i7 (by rw [e3]; exact hn_mono (Nat.le_refl _) k3 g8) i6, fun q => ?_⟩, hRK⟩
    rw [hRK.2.1] at q
    rw [a 5 (by omega)]
    exact img_congr (Nat.le_refl _) k3 (fun _ _ => rfl) (gi q)
  · refine ⟨⟨h17, ⟨tr, (f 40 (by omega) (by omega) (by omega) (by omega)).trans b1, b2⟩, (f 15 (by omega) (by omega) (by omega) (by omega)).trans g0, hTP, nc' + 1, e20, by omega, img_in i1 i5 i7 (by rw [e3]; exact Or.inr ⟨nc', by omega, rfl, hC⟩) i6, fun q => ?_⟩, hRK⟩
    rw [hRK.2.1] at q
    rw [a 5 (by omega)]
    exact img_congr (Nat.le_succ _) k3 (fun _ _ => rfl) (gi q)
theorem ri_image {S S' : FS} (h : RI S) (k : CA 5 (vec (setF (setF S 0 8 0) 0 11 1)) 1 89 89 (setF (setF S 0 8 0) 0 11 1) S') : RI S' ∧ (∀ i, i < 89 → vec S' i = vec S i) ∧ fF S' 0 11 = 1 ∧ ∀ i, i < 89 → fA S' 5 i = vec S i := by
  obtain ⟨⟨tx, x1, x2⟩, ⟨tr, b1, b2⟩, g0, d, nc, e1, e2, g, gi⟩ := h
  obtain ⟨-, k1, k2, k3, -, k4, -⟩ := k
  have ev : vec (setF (setF S 0 8 0) 0 11 1) = vec S := by
    refine vec_congr (fun m hm => ?_) rfl rfl rfl
    rcases (show m = 0 ∨ m = 1 ∨ m = 2 ∨ m = 3 ∨ m = 4 by omega) with rfl | rfl | rfl | rfl | rfl <;> rfl
  rw [ev] at k3 k4
  have f : ∀ j, j = 15 ∨ j = 17 ∨ j = 20 ∨ j = 40 → fF S' 0 j = fF S 0 j := fun j _ => by
    rw [k1 j (by omega) (by omega) (by omega) (by omega) (by omega) (by omega) (by omega), fF_setF, if_neg (by omega), fF_setF, if_neg (by omega)]
  have a : ∀ i, 7 ≤ i → fA S' i = fA S i := fun i _ => k2 i (by omega) (by omega) (by omega) (by omega)
  have hc : ∀ h, h < nc → CTh S h → CTh S' h := fun _ _ => cth_c (fun i p _ => a i p)
  refine ⟨⟨⟨tx, (f 17 (by omega)).trans x1, x2⟩, ⟨tr, (f 40 (by omega)).trans b1, b2⟩, (f 15 (by omega)).trans g0, fun t ht => ?_, nc, (f 20 (by omega)).trans e1, e2, img_congr (Nat.le_refl _) hc k4 g, fun _ => img_congr (Nat.le_refl _) hc k3 g⟩, k4, ?_, k3⟩
  · rw [a 19 (by omega)]
    exact d t ht
  · rw [k1 11 (by omega) (by omega) (by omega) (by omega) (by omega) (by omega) (by omega), fF_setF, if_pos ⟨rfl, rfl⟩]
theorem ri_undo {S S' : FS} (h : RI S) (hi : ¬ fF S 0 11 = 0) (k : CA 5 (fA S 5) 0 89 89 (setF S 0 8 0) S') : RI S' ∧ (∀ i, i < 89 → vec S' i = fA S 5 i) ∧ fF S' 0 11 = fF S 0 11 ∧ ∀ i, i < 89 → fA S' 5 i = fA S 5 i := by
  obtain ⟨⟨tx, x1, x2⟩, ⟨tr, b1, b2⟩, g0, d, nc, e1, e2, g, gi⟩ := h
  obtain ⟨-, k1, k2, k3, -, k4, -⟩ := k
  have f : ∀ j, j = 11 ∨ j = 15 ∨ j = 17 ∨ j = 20 ∨ j = 40 → fF S' 0 j = fF S 0 j := fun j _ => by
    rw [k1 j (by omega) (by omega) (by omega) (by omega) (by omega) (by omega) (by omega), fF_setF, if_neg (by omega)]
  have a : ∀ i, 7 ≤ i → fA S' i = fA S i := fun i _ => k2 i (by omega) (by omega) (by omega) (by omega)
  have hc : ∀ h, h < nc → CTh S h → CTh S' h := fun _ _ => cth_c (fun i p _ => a i p)
  refine ⟨⟨⟨tx, (f 17 (by omega)).trans x1, x2⟩, ⟨tr, (f 40 (by omega)).trans b1, b2⟩, (f 15 (by omega)).trans g0, fun t ht => ?_, nc, (f 20 (by omega)).trans e1, e2, img_congr (Nat.le_refl _) hc k4 (gi hi), fun _ => img_congr (Nat.le_refl _) hc k3 (gi hi)⟩, k4, f 11 (by omega), k3⟩
  rw [a 19 (by omega)]
  exact d t ht
theorem ri_cust {S S' : FS} (h : RI S) {n : Nat} (hn : fF S 0 1 = nI n) (hn6 : n ≤ 6) {kind v wants : Int32} (k : S' = (if 0 ≤ kind ∧ kind ≤ 6 then if 0 ≤ v ∧ v ≤ 9 then if 10 ≤ wants ∧ wants ≤ 99 then if fF S 0 1 = 6 then (setF S 0 8 0) else setF (setA (setF S 0 8 0) 1 (cs (fA S 1) n kind v wants)) 0 1 (nI (n + 1)) else (setF S 0 8 0) else (setF S 0 8 0) else (setF S 0 8 0))) : RI S' ∧ RK 1 S S' := by
  subst k
  have h8 : RI (setF S 0 8 0) ∧ RK 1 S (setF S 0 8 0) := ⟨(ri_8 h).1, rk_up (ri_8 h).2⟩
  split
  · split
    · split
      · by_cases p : fF S 0 1 = 6
        · rw [if_pos p]
          exact h8
        · rw [if_neg p]
          have hn2 : n ≠ 6 := fun e => p (by rw [hn, e]; rfl)
          obtain ⟨n', z', u, tx, tr, nc, g1, g2, -, g9, g0, g3, g4, g5, g6, g7, x1, x2, d, b1, b2, -, -⟩ := ri_all h8.1
          refine ⟨ri_gen h8.1 (fun j q => by rw [fF_setF, if_neg (by omega), fF_setA]) (by rw [fF_setF, if_neg (by omega), fF_setA]; exact g0) (fun i _ _ => by rw [fA_setF, fA_setA, if_neg (by omega)]) (by rw [fA_setF, fA_setA, if_neg (by omega)]) ⟨tx, by rw [fF_setF, if_neg (by omega), fF_setA]; exact x1, x2⟩ ⟨tr, by rw [fF_setF, if_neg (by omega), fF_setA]; exact b1, b2⟩ (fun t ht => by rw [fA_setF, fA_setA, if_neg (by omega)]; exact d t ht) ⟨n + 1, by rw [fF_setF, if_pos ⟨rfl, rfl⟩], by omega⟩ ⟨z', by rw [fF_setF, if_neg (by omega), fF_setA]; exact g3, g4⟩ ⟨u, by rw [fF_setF, if_neg (by omega), fF_setA]; exact g5, g6, fun i hi => by rw [fA_setF, fA_setA, if_neg (by omega)]; exact g7 i hi⟩ (fun c hc => ?_), fun j q q2 => by rw [fF_setF, if_neg (by omega), fF_setA, fF_setF, if_neg (by omega)], by rw [fF_setF, if_neg (by omega), fF_setA, fF_setF, if_neg (by omega)], by rw [fA_setF, fA_setA, if_neg (by omega)]; rfl⟩
          rw [fA_setF, fA_setA, if_pos rfl]
          unfold cs
          rw [pk_un (by omega), pk_un (by omega), pk_un (by omega), pk_un (by omega)]
          unfold zs
          split
          · exact ⟨0, by omega, rfl⟩
          · exact g9 c hc
      · exact h8
    · exact h8
  · exact h8
theorem ri_R0 : RI R0 := ⟨⟨0, rfl, by omega⟩, ⟨0, rfl, by omega⟩, rfl, fun t _ => ⟨0, by omega, rfl⟩, 0, rfl, by omega, img_in ⟨0, rfl, by omega⟩ ⟨0, rfl, by omega⟩ ⟨0, rfl, by omega, fun i hi => absurd hi (by omega)⟩ (Or.inl rfl) (fun c _ => ⟨0, by omega, rfl⟩), fun q => absurd rfl q⟩
