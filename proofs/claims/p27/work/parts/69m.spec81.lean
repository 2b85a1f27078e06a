/-- reading without putting together -/
def uA : Al Unit := (fun _ _ => (), fun _ => (), fun _ _ => (), fun _ _ => ())
/-- the reference's way through an expression: by a depth, how much is open, and the nots of each depth -/
def exR (τ : Nat → Int32) : Nat → Bool → Nat → Nat → Nat → (Nat → Nat) → Bool × Nat
  | 0, _, p, _, _, _ => (false, p)
  | f + 1, true, p, d, o, N => if τ p = 33 ∨ τ p = 40 then if o = 4 then (false, p) else if τ p = 40 then exR τ f true (p + 1) (d + 1) (o + 1) (va_up N (d + 1) 0) else exR τ f true (p + 1) d (o + 1) (va_up N d (N d + 1)) else if (tstP uA τ p).1 = none then (false, (tstP uA τ p).2) else exR τ f false (tstP uA τ p).2 d (o - N d) (va_up N d 0)
  | f + 1, false, p, d, o, N => if τ p = 38 ∨ τ p = 124 then exR τ f true (p + 1) d o N else if τ p = 41 ∧ 0 < d then exR τ f false (p + 1) (d - 1) (o - 1 - N (d - 1)) (va_up N (d - 1) 0) else (decide (d = 0), p)
section XR
variable {τ : Nat → Int32} {f p d o : Nat} {N : Nat → Nat}
theorem xr_4 (h : τ p = 33 ∨ τ p = 40) (ho : o = 4) : exR τ (f + 1) true p d o N = (false, p) := (if_pos h).trans (if_pos ho)
theorem xr_40 (h : τ p = 40) (ho : ¬ o = 4) : exR τ (f + 1) true p d o N = exR τ f true (p + 1) (d + 1) (o + 1) (va_up N (d + 1) 0) := (if_pos (Or.inr h)).trans ((if_neg ho).trans (if_pos h))
theorem xr_33 (h : τ p = 33) (ho : ¬ o = 4) : exR τ (f + 1) true p d o N = exR τ f true (p + 1) d (o + 1) (va_up N d (N d + 1)) := (if_pos (Or.inl h)).trans ((if_neg ho).trans (if_neg (fun e => absurd (h.symm.trans e) (by decide))))
theorem xr_tn (h : ¬ τ p = 33) (h2 : ¬ τ p = 40) {q : Nat} (e : tstP uA τ p = (none, q)) : exR τ (f + 1) true p d o N = (false, q) := by
  refine (if_neg (fun z => z.elim h h2)).trans ((if_pos (by rw [e])).trans ?_)
  rw [e]
theorem xr_ts (h : ¬ τ p = 33) (h2 : ¬ τ p = 40) {q : Nat} {v : Unit} (e : tstP uA τ p = (some v, q)) : exR τ (f + 1) true p d o N = exR τ f false q d (o - N d) (va_up N d 0) := by
  refine (if_neg (fun z => z.elim h h2)).trans ((if_neg (by rw [e]; exact fun q => by cases q)).trans ?_)
  rw [e]
theorem xr_and (h : τ p = 38 ∨ τ p = 124) : exR τ (f + 1) false p d o N = exR τ f true (p + 1) d o N := if_pos h
theorem xr_41 (h : τ p = 41) (hd : 0 < d) : exR τ (f + 1) false p d o N = exR τ f false (p + 1) (d - 1) (o - 1 - N (d - 1)) (va_up N (d - 1) 0) := (if_neg (fun e => e.elim (fun e => absurd (h.symm.trans e) (by decide)) (fun e => absurd (h.symm.trans e) (by decide)))).trans (if_pos ⟨h, hd⟩)
theorem xr_end (h : ¬ (τ p = 38 ∨ τ p = 124)) (h2 : ¬ (τ p = 41 ∧ 0 < d)) : exR τ (f + 1) false p d o N = (decide (d = 0), p) := (if_neg h).trans (if_neg h2)
end XR
theorem let_lix {c : Int32} : isLet c ↔ ¬ lix c < 0 := by
  unfold isLet lix
  constructor
  · rintro (rfl | rfl | rfl | rfl | rfl | rfl) <;> decide
  · intro h
    by_cases h1 : c = 99
    · exact Or.inl h1
    · rw [if_neg h1] at h
      by_cases h2 : c = 107
      · exact Or.inr (Or.inl h2)
      · rw [if_neg h2] at h
        by_cases h3 : c = 116
        · exact Or.inr (Or.inr (Or.inl h3))
        · rw [if_neg h3] at h
          by_cases h4 : c = 111
          · exact Or.inr (Or.inr (Or.inr (Or.inl h4)))
          · rw [if_neg h4] at h
            by_cases h5 : c = 110
            · exact Or.inr (Or.inr (Or.inr (Or.inr (Or.inl h5))))
            · rw [if_neg h5] at h
              by_cases h6 : c = 100
              · exact Or.inr (Or.inr (Or.inr (Or.inr (Or.inr h6))))
              · rw [if_neg h6] at h
                exact absurd (by decide) h
theorem cmp_cix {c : Int32} : (60 ≤ c ∧ c ≤ 62) ↔ ¬ cix c < 0 := by
  constructor
  · intro h
    obtain ⟨k, hk, rfl⟩ := out_n (b := 62) (x := c) (fun q => q.elim (fun q => absurd (Int32.lt_of_le_of_lt h.1 q) (by decide)) (fun q => Int32.not_lt.mpr h.2 q)) (by decide)
    have h1 := (nI_leI (a := 60) (b := k) (by omega) (by omega)).mp h.1
    rcases (show k = 60 ∨ k = 61 ∨ k = 62 by omega) with rfl | rfl | rfl <;> decide
  · intro h
    unfold cix at h
    by_cases h1 : c = 60
    · rw [h1]; decide
    · rw [if_neg h1] at h
      by_cases h2 : c = 61
      · rw [h2]; decide
      · rw [if_neg h2] at h
        by_cases h3 : c = 62
        · rw [h3]; decide
        · rw [if_neg h3] at h
          exact absurd (by decide) h
/-- while an expression is read, with what comes of it -/
def EXx (S0 S : FS) (z a fu : Nat) (wf en : Int32) (R : Bool × Nat) : Prop := PFr S0 S ∧ (wf = 0 ∨ wf = 1) ∧ (en = 0 ∨ en = 1) ∧ 0 < fu ∧ ∃ (u d o : Nat) (N : Nat → Nat), fF S 0 25 = nI u ∧ u ≤ z ∧ XL S d o N ∧ (wf = 0 → N d = 0) ∧ ((fF S 0 26 = 1 ∧ R = (false, u)) ∨ (fF S 0 26 = 0 ∧ RPi (fA S0 6) z a u d ∧ (en = 1 → d = 0 ∧ R = (true, u)) ∧ (en = 0 → z + 2 < u + fu ∧ exR (hrS (fA S0 6) z) fu (decide (wf = 1)) u d o N = R)))
def EXxe (S0 S : FS) (z a : Nat) (R : Bool × Nat) : Prop := PFr S0 S ∧ ∃ u : Nat, fF S 0 25 = nI u ∧ u ≤ z ∧ ((fF S 0 26 = 1 ∧ R = (false, u)) ∨ (fF S 0 26 = 0 ∧ RPi (fA S0 6) z a u 0 ∧ R = (true, u)))
theorem EXx_end {S0 S : FS} {z a fu : Nat} {wf en : Int32} {R : Bool × Nat} (h : EXx S0 S z a fu wf en R) (hx : ¬ fF S 0 26 = 0 ∨ ¬ en = 0) : EXxe S0 S z a R := by
  obtain ⟨hf, -, he, -, u, d, o, N, h1, h2, -, -, h3⟩ := h
  refine ⟨hf, u, h1, h2, ?_⟩
  rcases h3 with h3 | ⟨h3, h4, h5, -⟩
  · exact Or.inl h3
  · refine Or.inr ⟨h3, ?_⟩
    rcases hx with hx | hx
    · exact absurd h3 hx
    · rcases he with he | he
      · exact absurd he hx
      · obtain ⟨h6, h7⟩ := h5 he
        subst h6
        exact ⟨h4, h7⟩
theorem EXx_test {S0 S S' : FS} {z a fu u d o : Nat} {N : Nat → Nat} {R : Bool × Nat} (hf : PFr S0 S) (hb : fF S 0 26 = 0) (hu : u ≤ z) (h3 : RPi (fA S0 6) z a u d) (h5 : z + 2 < u + (fu + 1)) (hR : exR (hrS (fA S0 6) z) (fu + 1) true u d o N = R) (hc1 : ¬ hrS (fA S0 6) z u = 33) (hc2 : ¬ hrS (fA S0 6) z u = 40) (hT : RTe z u S S') (hX : XL S' d (o - N d) (va_up N d 0)) : EXx S0 S' z a fu 0 0 R := by
  obtain ⟨hT1, hT⟩ := hT
  rw [hf.a6] at hT
  refine ⟨hf.trans hT1, Or.inl rfl, Or.inl rfl, by omega, ?_⟩
  rcases hT with ⟨hL, h1, h2⟩ | ⟨⟨-, hL⟩, hC, h1, h2⟩ | ⟨⟨-, hL⟩, hC, hD, h1, h2⟩ | ⟨⟨-, hL⟩, hC, hD, h1, h2⟩
  · have hl : lix (hrS (fA S0 6) z u) < 0 := Decidable.not_not.mp (fun q => hL ⟨hb, let_lix.mpr q⟩)
    exact ⟨u, d, _, _, h2, hu, hX, fun _ => va_up_self _ _ _, Or.inl ⟨h1, hR.symm.trans (xr_tn hc1 hc2 (tst_0 hl))⟩⟩
  · have := hr_lt (isLet_ne hL).1
    exact ⟨u + 1, d, _, _, h2, this, hX, fun _ => va_up_self _ _ _, Or.inl ⟨h1, hR.symm.trans (xr_tn hc1 hc2 (tst_1 (let_lix.mp hL) (Decidable.not_not.mp (fun q => hC (cmp_cix.mpr q)))))⟩⟩
  · have : u + 1 < z := hr_lt (fun q => absurd (q ▸ hC.1) (by decide))
    exact ⟨u + 2, d, _, _, h2, this, hX, fun _ => va_up_self _ _ _, Or.inl ⟨h1, hR.symm.trans (xr_tn hc1 hc2 ((tst_2 (let_lix.mp hL) (cmp_cix.mp hC)).trans (by rw [num_0 hD]; rfl)))⟩⟩
  · have hlt := hr_lt (isLet_ne hL).1
    have ht : fA S0 6 u = hrS (fA S0 6) z u := by unfold hrS; rw [if_pos hlt]
    have hne := isLet_ne hL
    have hd2 : u + 2 < z := (hrS_dig hD).1
    have hst := stp_t (t := fA S0 6) (z := z) (p := u) (d := d) hlt (by rw [ht]; exact hne.2.1) (by rw [ht]; exact hc1) (by rw [ht]; exact hc2) (by rw [ht]; exact hne.2.2.2.2.1) (by rw [ht]; exact hne.2.2.2.2.2.1) (by rw [ht]; exact hne.2.2.2.2.2.2)
    rcases h2 with ⟨hd3, h2⟩ | ⟨hd3, h2⟩
    · rw [if_pos (hrS_dig hd3)] at hst
      exact ⟨u + 4, d, _, _, h2, (hrS_dig hd3).1, hX, fun _ => va_up_self _ _ _, Or.inr ⟨h1, RPi_step h3 hst (RPi_le h3) (fun _ q => absurd (ht ▸ q) hne.2.2.2.2.1), fun q => absurd q (by decide), fun _ => ⟨by omega, (xr_ts hc1 hc2 ((tst_2 (let_lix.mp hL) (cmp_cix.mp hC)).trans (by rw [num_2 hD hd3]; rfl))).symm.trans hR⟩⟩⟩
    · rw [if_neg (hrS_dig_n hd3)] at hst
      exact ⟨u + 3, d, _, _, h2, hd2, hX, fun _ => va_up_self _ _ _, Or.inr ⟨h1, RPi_step h3 hst (RPi_le h3) (fun _ q => absurd (ht ▸ q) hne.2.2.2.2.1), fun q => absurd q (by decide), fun _ => ⟨by omega, (xr_ts hc1 hc2 ((tst_2 (let_lix.mp hL) (cmp_cix.mp hC)).trans (by rw [num_1 hD hd3]; rfl))).symm.trans hR⟩⟩⟩
theorem EXx_open {S0 S S' : FS} {z a fu u d o : Nat} {N : Nat → Nat} {c : Int32} {R : Bool × Nat} (hf : PFr S0 S) (hu : u ≤ z) (he : fF S 0 25 = nI u) (h3 : RPi (fA S0 6) z a u d) (h5 : z + 2 < u + (fu + 1)) (hR : exR (hrS (fA S0 6) z) (fu + 1) true u d o N = R) (hX : XL S d o N) (hc : hrS (fA S0 6) z u = c) (hc2 : c = 33 ∨ c = 40) (hO : ROp u d o N c S S') : EXx S0 S' z a fu 1 0 R := by
  have hl := XL_le hX
  have hlt : u < z := hr_lt (by rw [hc]; rcases hc2 with rfl | rfl <;> decide)
  have ht : fA S0 6 u = c := by rw [← hc]; unfold hrS; rw [if_pos hlt]
  rcases hO with ⟨ho4, rfl⟩ | ⟨ho, rfl, rfl⟩ | ⟨ho, hn, rfl⟩
  · exact ⟨hf.setF (by decide) _, Or.inr rfl, Or.inl rfl, by omega, u, d, o, N, he, hu, hX, fun q => absurd q (by decide), Or.inl ⟨rfl, hR.symm.trans (xr_4 (hc2.imp (fun q => hc.trans q) (fun q => hc.trans q)) ho4)⟩⟩
  · refine ⟨((((hf.setF (by decide) _).setF (by decide) _).setF (by decide) _).setF (by decide) _).setA _, Or.inr rfl, Or.inl rfl, by omega, u + 1, d + 1, o + 1, _, rfl, hlt, XL_open hX ho 0 _, fun q => absurd q (by decide), Or.inr ⟨rfl, RPi_step h3 (stp_40 hlt ht) (by omega) (fun _ q => absurd (ht ▸ q) (by decide)), fun q => absurd q (by decide), fun _ => ⟨by omega, (xr_40 hc (by omega)).symm.trans hR⟩⟩⟩
  · have e33 : fA S0 6 u = 33 := by
      rcases hc2 with q | q
      · rw [ht, q]
      · exact absurd q hn
    have c33 : hrS (fA S0 6) z u = 33 := by
      rcases hc2 with q | q
      · rw [hc, q]
      · exact absurd q hn
    refine ⟨(((hf.setF (by decide) _).setF (by decide) _).setF (by decide) _).setA _, Or.inr rfl, Or.inl rfl, by omega, u + 1, d, o + 1, _, rfl, hlt, XL_not hX ho 0 _, fun q => absurd q (by decide), Or.inr ⟨rfl, RPi_step h3 (stp_33 hlt e33) (RPi_le h3) (fun _ q => absurd (e33 ▸ q) (by decide)), fun q => absurd q (by decide), fun _ => ⟨by omega, (xr_33 c33 (by omega)).symm.trans hR⟩⟩⟩
theorem EXx_and {S0 S : FS} {z a fu u d o : Nat} {N : Nat → Nat} {R : Bool × Nat} (hf : PFr S0 S) (hb : fF S 0 26 = 0) (h3 : RPi (fA S0 6) z a u d) (h5 : z + 2 < u + (fu + 1)) (hR : exR (hrS (fA S0 6) z) (fu + 1) false u d o N = R) (hX : XL S d o N) (hc2 : hrS (fA S0 6) z u = 38 ∨ hrS (fA S0 6) z u = 124) : EXx S0 (setF S 0 25 (nI (u + 1))) z a fu 1 0 R := by
  have hlt : u < z := hr_lt (by rcases hc2 with q | q <;> rw [q] <;> decide)
  have ht : fA S0 6 u = hrS (fA S0 6) z u := by unfold hrS; rw [if_pos hlt]
  refine ⟨hf.setF (by decide) _, Or.inr rfl, Or.inl rfl, by omega, u + 1, d, o, N, rfl, hlt, ⟨hX.1, hX.2.1, hX.2.2.1, hX.2.2.2⟩, fun q => absurd q (by decide), Or.inr ⟨hb, ?_, fun q => absurd q (by decide), fun _ => ⟨by omega, (xr_and hc2).symm.trans hR⟩⟩⟩
  rcases hc2 with q | q
  · exact RPi_step h3 (stp_38 hlt (ht.trans q)) (RPi_le h3) (fun _ z => absurd ((ht.trans q).symm.trans z) (by decide))
  · exact RPi_step h3 (stp_124 hlt (ht.trans q)) (RPi_le h3) (fun _ z => absurd ((ht.trans q).symm.trans z) (by decide))
theorem EXx_close {S0 S S2 S' : FS} {z a fu u d o : Nat} {N : Nat → Nat} {R : Bool × Nat} (hf : PFr S0 S) (hb : fF S 0 26 = 0) (h3 : RPi (fA S0 6) z a u d) (h5 : z + 2 < u + (fu + 1)) (hR : exR (hrS (fA S0 6) z) (fu + 1) false u d o N = R) (hX : XL S d o N) (hN : N d = 0) (hd : 0 < d) (hc : hrS (fA S0 6) z u = 41) (e2 : S2 = setF (setF (setF S 0 25 (nI (u + 1))) 0 28 (nI (d - 1))) 0 29 (nI (o - 1))) (e3 : S' = setA (setF S2 0 29 (nI (o - 1 - N (d - 1)))) 13 (upd (fA S2 13) (d - 1) 0)) : EXx S0 S' z a fu 0 0 R := by
  have hR' := (xr_41 (f := fu) (o := o) (N := N) hc hd).symm.trans hR
  obtain ⟨k, rfl⟩ : ∃ k, d = k + 1 := ⟨d - 1, by omega⟩
  rw [Nat.add_sub_cancel] at e2 e3 hR'
  have hlt : u < z := hr_lt (by rw [hc]; decide)
  have ht : fA S0 6 u = 41 := by rw [← hc]; unfold hrS; rw [if_pos hlt]
  have hX2 : XL S2 k (o - 1) N := by rw [e2]; exact XL_close hX hN _
  have hX3 := XL_end hX2
  rw [← e3] at hX3
  have hst := stp_41 (t := fA S0 6) (d := k + 1) hlt ht
  refine ⟨?_, Or.inl rfl, Or.inl rfl, by omega, u + 1, k, _, _, ?_, hlt, hX3, fun _ => va_up_self _ _ _, Or.inr ⟨?_, RPi_step h3 hst (by have := RPi_le h3; omega) (fun _ _ => by omega), fun q => absurd q (by decide), fun _ => ⟨by omega, hR'⟩⟩⟩
  · rw [e3, e2]
    exact ((((hf.setF (by decide) _).setF (by decide) _).setF (by decide) _).setF (by decide) _).setA _
  · rw [e3, e2]; rfl
  · rw [e3, e2]; exact hb
theorem EXx_stop {S0 S : FS} {z a fu u d o : Nat} {N : Nat → Nat} {R : Bool × Nat} {wf v : Int32} (hw : wf = 0) (hf : PFr S0 S) (hfu : 0 < fu) (hu : u ≤ z) (he : fF S 0 25 = nI u) (h3 : RPi (fA S0 6) z a u d) (hR : exR (hrS (fA S0 6) z) (fu + 1) false u d o N = R) (h38 : ¬ (hrS (fA S0 6) z u = 38 ∨ hrS (fA S0 6) z u = 124)) (h41 : ¬ (hrS (fA S0 6) z u = 41 ∧ 0 < d)) (hX : XL S d o N) (hN : wf = 0 → N d = 0) (hv : (v = 1 ∧ 0 < d) ∨ (v = 0 ∧ d = 0)) : EXx S0 (setF S 0 26 v) z a fu wf 1 R := by
  have hR' := (xr_end (f := fu) (o := o) (N := N) h38 h41).symm.trans hR
  refine ⟨hf.setF (by decide) _, Or.inl hw, Or.inr rfl, hfu, u, d, o, N, he, hu, ⟨hX.1, hX.2.1, hX.2.2.1, hX.2.2.2⟩, hN, ?_⟩
  rcases hv with ⟨rfl, hd⟩ | ⟨rfl, hd⟩
  · exact Or.inl ⟨rfl, by rw [← hR', decide_eq_false (by omega)]⟩
  · exact Or.inr ⟨rfl, h3, fun _ => ⟨hd, by rw [← hR', decide_eq_true hd]⟩, fun q => absurd q (by decide)⟩
theorem EXx_start {S0 S : FS} {z u : Nat} (hf : PFr S0 S) (hu : u ≤ z) (hp : fF S 0 25 = nI u) (hb : fF S 0 26 = 0) : EXx S0 (setA (setF (setF S 0 28 0) 0 29 0) 13 (upd (fA S 13) 0 0)) z u (z + 3) 1 0 (exR (hrS (fA S0 6) z) (z + 3) true u 0 0 (fun _ => 0)) :=
  ⟨((hf.setF (by decide) _).setF (by decide) _).setA _, Or.inr rfl, Or.inl rfl, by omega, u, 0, 0, _, hp, hu, XL_0 0, fun q => absurd q (by decide), Or.inr ⟨hb, RPi_0 _ _ _, fun q => absurd q (by decide), fun _ => ⟨by omega, rfl⟩⟩⟩
/-- the signs packed into a number -/
def bts : Nat → Nat → List Int32
  | 0, _ => []
  | k + 1, v => if v = 0 then [] else nI (v % 256) :: bts k (v / 256)
/-- one sign more, if all went well -/
def tkF (τ : Nat → Int32) (st : Bool × Nat) (c : Int32) : Bool × Nat := if st.1 = true ∧ τ st.2 = c then (true, st.2 + 1) else (false, st.2)
theorem rem_is {v : Nat} (hv : v < 2 ^ 62) : (lN v - lN v / 256 * 256).toInt32 = nI (v % 256) := by
  have h3 := pk_lRem (a := v) (b := 256) (by omega) (by omega) (by omega)
  rw [show (256 : Int64) = lN 256 from rfl, h3]
  exact lN_i _
/-- a reading's state -/
def SRs (z : Nat) (S : FS) (st : Bool × Nat) : Prop := fF S 0 25 = nI st.2 ∧ fF S 0 26 = (if st.1 = true then 0 else 1) ∧ st.2 ≤ z
theorem srs_b {z : Nat} {S : FS} {st : Bool × Nat} (h : SRs z S st) : fF S 0 26 = 0 ↔ st.1 = true := by
  rw [h.2.1]
  by_cases q : st.1 = true
  · rw [if_pos q]
    exact ⟨fun _ => q, fun _ => rfl⟩
  · rw [if_neg q]
    exact ⟨fun e => absurd e (by decide), fun e => absurd e q⟩
theorem srs_tk {S0 S S' : FS} {z : Nat} {c : Int32} {st : Bool × Nat} (hQ : QFr S0 S) (h : SRs z S st) (hT : TKP z st.2 c S S') (hc : ¬ c = -1) : QFr S0 S' ∧ SRs z S' (tkF (hrS (fA S0 6) z) st c) := by
  obtain ⟨g1, g2⟩ := hT
  rw [hQ.a6, srs_b h] at g2
  refine ⟨hQ.trans g1, ?_⟩
  unfold tkF
  rcases g2 with ⟨a, b, d, e⟩ | ⟨a, d, e⟩
  · rw [if_pos ⟨a, b⟩]
    exact ⟨d, e, hr_lt (by rw [b]; exact hc)⟩
  · rw [if_neg a]
    exact ⟨d, e, h.2.2⟩
theorem bts_s {k v : Nat} (hv : v < 256 ^ k) (h0 : 0 < v) : bts k v = nI (v % 256) :: bts (k - 1) (v / 256) ∧ v / 256 < 256 ^ (k - 1) ∧ ¬ nI (v % 256) = -1 := by
  cases k with
  | zero => rw [Nat.pow_zero] at hv; omega
  | succ k =>
    refine ⟨if_neg (by omega), ?_, fun q => ?_⟩
    · show v / 256 < 256 ^ k
      rw [Nat.pow_succ] at hv
      exact Nat.div_lt_of_lt_mul (by omega)
    · have h5 := congrArg Int32.toInt q
      have h4 : v % 256 < 256 := Nat.mod_lt _ (by omega)
      rw [nI_toInt (by omega)] at h5
      have : (-1 : Int32).toInt = -1 := by decide
      omega
theorem bts_0 (k : Nat) : bts k 0 = [] := by cases k <;> rfl
/-- less or learn, from the third sign on -/
def tkG (τ : Nat → Int32) (st : Bool × Nat) : Bool × Nat := if st.1 = true ∧ (τ st.2 = 115 ∨ τ st.2 = 97) then (true, st.2 + 1) else (false, st.2)
/-- a word and a space -/
def rwP (τ : Nat → Int32) (p : Nat) : Option Nat × Nat := thn (wrdP τ p) (fun w q => if τ q = 32 then (some w, q + 1) else (none, q))
def toR (w : Nat) (st : Bool × Nat) : Option Nat × Nat := (if st.1 = true then some w else none, st.2)
theorem rw_m {τ : Nat → Int32} {u : Nat} (h : τ u = 109) : rwP τ u = toR 0 ([111, 114, 101, 32].foldl (tkF τ) (true, u + 1)) := by
  by_cases h1 : τ (u + 1) = 111
  · by_cases h2 : τ (u + 1 + 1) = 114
    · by_cases h3 : τ (u + 1 + 1 + 1) = 101
      · by_cases h4 : τ (u + 1 + 1 + 1 + 1) = 32 <;> simp [rwP, wrdP, wrdL, alk, bytS, lenS, thn, tkF, toR, h, h1, h2, h3, h4]
      · simp [rwP, wrdP, wrdL, alk, bytS, lenS, thn, tkF, toR, h, h1, h2, h3]
    · simp [rwP, wrdP, wrdL, alk, bytS, lenS, thn, tkF, toR, h, h1, h2]
  · simp [rwP, wrdP, wrdL, alk, bytS, lenS, thn, tkF, toR, h, h1]
theorem rw_p {τ : Nat → Int32} {u : Nat} (h : τ u = 112) : rwP τ u = toR 2 ([114, 105, 99, 101, 32].foldl (tkF τ) (true, u + 1)) := by
  by_cases h1 : τ (u + 1) = 114
  · by_cases h2 : τ (u + 1 + 1) = 105
    · by_cases h3 : τ (u + 1 + 1 + 1) = 99
      · by_cases h4 : τ (u + 1 + 1 + 1 + 1) = 101
        · by_cases h5 : τ (u + 1 + 1 + 1 + 1 + 1) = 32 <;> simp [rwP, wrdP, wrdL, alk, bytS, lenS, thn, tkF, toR, h, h1, h2, h3, h4, h5]
        · simp [rwP, wrdP, wrdL, alk, bytS, lenS, thn, tkF, toR, h, h1, h2, h3, h4]
      · simp [rwP, wrdP, wrdL, alk, bytS, lenS, thn, tkF, toR, h, h1, h2, h3]
    · simp [rwP, wrdP, wrdL, alk, bytS, lenS, thn, tkF, toR, h, h1, h2]
  · simp [rwP, wrdP, wrdL, alk, bytS, lenS, thn, tkF, toR, h, h1]
theorem rw_l {τ : Nat → Int32} {u : Nat} (n1 : ¬ τ u = 109) (n2 : ¬ τ u = 112) : rwP τ u = (if τ ([108, 101].foldl (tkF τ) (true, u)).2 = 115 then toR 1 ([115, 32].foldl (tkF τ) (tkG τ ([108, 101].foldl (tkF τ) (true, u)))) else toR 3 ([114, 110, 32].foldl (tkF τ) (tkG τ ([108, 101].foldl (tkF τ) (true, u))))) := by
  by_cases h : τ u = 108
  · by_cases h1 : τ (u + 1) = 101
    · by_cases h2 : τ (u + 1 + 1) = 115
      · by_cases h3 : τ (u + 1 + 1 + 1) = 115
        · by_cases h4 : τ (u + 1 + 1 + 1 + 1) = 32 <;> simp [rwP, wrdP, wrdL, alk, bytS, lenS, thn, tkF, tkG, toR, h, h1, h2, h3, h4]
        · simp [rwP, wrdP, wrdL, alk, bytS, lenS, thn, tkF, tkG, toR, h, h1, h2, h3]
      · by_cases h3 : τ (u + 1 + 1) = 97
        · by_cases h4 : τ (u + 1 + 1 + 1) = 114
          · by_cases h5 : τ (u + 1 + 1 + 1 + 1) = 110
            · by_cases h6 : τ (u + 1 + 1 + 1 + 1 + 1) = 32 <;> simp [rwP, wrdP, wrdL, alk, bytS, lenS, thn, tkF, tkG, toR, h, h1, h2, h3, h4, h5, h6]
            · simp [rwP, wrdP, wrdL, alk, bytS, lenS, thn, tkF, tkG, toR, h, h1, h2, h3, h4, h5]
          · simp [rwP, wrdP, wrdL, alk, bytS, lenS, thn, tkF, tkG, toR, h, h1, h2, h3, h4]
        · simp [rwP, wrdP, wrdL, alk, bytS, lenS, thn, tkF, tkG, toR, h, h1, h2, h3]
    · by_cases h2 : τ (u + 1) = 115 <;> simp [rwP, wrdP, wrdL, alk, bytS, lenS, thn, tkF, tkG, toR, h, h1, h2]
  · by_cases h2 : τ u = 115 <;> simp [rwP, wrdP, wrdL, alk, bytS, lenS, thn, tkF, tkG, toR, n1, n2, h, h2]
theorem tkG_b {τ : Nat → Int32} {z : Nat} {S : FS} {st : Bool × Nat} (h : SRs z S st) (hb : ¬ fF S 0 26 = 0) : tkG τ st = (false, st.2) := if_neg (fun q => hb ((srs_b h).mpr q.1))
theorem tkG_n {τ : Nat → Int32} {st : Bool × Nat} (h : ¬ τ st.2 = 115) (h2 : ¬ τ st.2 = 97) : tkG τ st = (false, st.2) := if_neg (fun q => q.2.elim h h2)
theorem tkG_y {τ : Nat → Int32} {z : Nat} {S : FS} {st : Bool × Nat} (h : SRs z S st) (hb : fF S 0 26 = 0) (h2 : τ st.2 = 115 ∨ τ st.2 = 97) : tkG τ st = (true, st.2 + 1) := if_pos ⟨(srs_b h).mp hb, h2⟩
/-- what readWord() does -/
def RwQ (τ : Nat → Int32) (z u : Nat) (r : Int32) (S S' : FS) : Prop := QFr S S' ∧ SRs z S' ((rwP τ u).1.isSome, (rwP τ u).2) ∧ (∀ w, (rwP τ u).1 = some w → r = nI w) ∧ (r = 0 ∨ r = 1 ∨ r = 2 ∨ r = 3)
theorem rwq_of {τ : Nat → Int32} {z u w : Nat} {r : Int32} {S S' : FS} {st : Bool × Nat} (hQ : QFr S S') (h : SRs z S' st) (e : rwP τ u = toR w st) (hr : r = nI w) (hw : w < 4) : RwQ τ z u r S S' := by
  refine ⟨hQ, ?_, fun v q => ?_, ?_⟩
  · rw [e]
    obtain ⟨b, p⟩ := st
    cases b <;> exact h
  · rw [e] at q
    unfold toR at q
    by_cases c : st.1 = true
    · rw [if_pos c] at q
      cases q
      exact hr
    · rw [if_neg c] at q
      cases q
  · rw [hr]
    rcases (show w = 0 ∨ w = 1 ∨ w = 2 ∨ w = 3 by omega) with rfl | rfl | rfl | rfl <;> decide
theorem lN_z {v : Nat} (hv : v < 2 ^ 62) (h : lg_cmp (lN v) 0 = 0) : v = 0 := by
  have e := congrArg Int64.toInt (lc_eq h)
  have h1 : (lN v).toInt = (v : Int) := lg_ofNat_toInt (by omega)
  have h0 : (0 : Int64).toInt = 0 := by decide
  omega
