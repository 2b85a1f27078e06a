theorem gr_vs {T : FS} {j : Nat} {f : Nat → Int32} (h : VS T j f) (h0 : ∀ k, 12 ≤ k → f k = 0) : gR T j = f := by
  funext k
  by_cases a : k < 12
  · exact (gR_k a).trans (h k a)
  · rw [h0 k (by omega)]
    exact if_neg a
theorem gr_out {S : FS} {j k : Nat} (h : 12 ≤ k) : gR S j k = 0 := if_neg (by omega)
theorem gr_vis {S T : FS} {j : Nat} {mi ln mo : Int32} (h : VS T j (visF mi ln mo (gR S j))) : gR T j = visF mi ln mo (gR S j) := gr_vs h (fun k hk => (vis_out (by omega)).trans (gr_out hk))
theorem gr_ne {S T : FS} {j x d : Nat} (h : VR j x S T) (hd : ¬ d = j) : gR T d = gR S d := by
  funext k
  unfold gR
  by_cases a : k < 12
  · rw [if_pos a, if_pos a, h.2.2.2.2.1 _ (by omega)]
  · rw [if_neg a, if_neg a]
section CG
variable {α : Type} {mi off ln : Int32} {τ : Nat → Int32} {C : ClA α} {G G' : Nat → Nat → Int32}
theorem sb_cg : ∀ {k : Nat}, (∀ d, d < k → G d = G' d) → sbN off τ C G k = sbN off τ C G' k := by
  intro k
  induction k with
  | zero => exact fun _ => rfl
  | succ k ih =>
    intro h
    show sbN off τ C G k + boG off τ C (nI k) (G k) = sbN off τ C G' k + boG off τ C (nI k) (G' k)
    rw [ih (fun d hd => h d (by omega)), h k (by omega)]
theorem as_cg : ∀ {k : Nat}, (∀ d, d < k → G d = G' d) → asN G k = asN G' k := by
  intro k
  induction k with
  | zero => exact fun _ => rfl
  | succ k ih =>
    intro h
    show asN G k + (if G k 7 = 1 then 0 else askF (G k)) = asN G' k + (if G' k 7 = 1 then 0 else askF (G' k))
    rw [ih (fun d hd => h d (by omega)), h k (by omega)]
theorem st_cg : ∀ {k : Nat}, (∀ d, d < k → G d = G' d) → stN G k = stN G' k := by
  intro k
  induction k with
  | zero => exact fun _ => rfl
  | succ k ih =>
    intro h
    show stN G k + (if G k 7 = 1 then 0 else 1) = stN G' k + (if G' k 7 = 1 then 0 else 1)
    rw [ih (fun d hd => h d (by omega)), h k (by omega)]
theorem go_cg : ∀ {k : Nat}, (∀ d, d < k → G d = G' d) → goN G k = goN G' k := by
  intro k
  induction k with
  | zero => exact fun _ => rfl
  | succ k ih =>
    intro h
    show goN G k + (if G k 7 = 1 then 2 ^ k else 0) = goN G' k + (if G' k 7 = 1 then 2 ^ k else 0)
    rw [ih (fun d hd => h d (by omega)), h k (by omega)]
theorem rf_cg : ∀ {k : Nat}, (∀ d, d < k → G d = G' d) → rfN off τ C G k = rfN off τ C G' k := by
  intro k
  induction k with
  | zero => exact fun _ => rfl
  | succ k ih =>
    intro h
    show rfN off τ C G k + (if ¬ G k 7 = 1 ∧ letF (G k) < moF off τ C (nI k) (G k) then 1 else 0) = rfN off τ C G' k + (if ¬ G' k 7 = 1 ∧ letF (G' k) < moF off τ C (nI k) (G' k) then 1 else 0)
    rw [ih (fun d hd => h d (by omega)), h k (by omega)]
end CG
/-- the customers before n, and nobody else -/
def cutF (n : Nat) (G : Nat → Nat → Int32) : Nat → Nat → Int32 := fun d => if d < n then G d else fun _ => 0
theorem cut_at {n d : Nat} {G : Nat → Nat → Int32} (h : d < n) : cutF n G d = G d := if_pos h
theorem cut_sa {α : Type} {mi off ln : Int32} {τ : Nat → Int32} {C : ClA α} {n : Nat} {G H : Nat → Nat → Int32} (h : ∀ d, d < n → H d = saG mi off ln τ C n G d) : cutF n H = saG mi off ln τ C n (cutF n G) := by
  funext d
  by_cases a : d < n
  · rw [cut_at a, h d a]
    unfold saG
    rw [if_pos a, if_pos a, cut_at a]
  · unfold saG
    rw [if_neg a]
    unfold cutF
    rw [if_neg a, if_neg a]
/-- Saturday after Saturday -/
def stF {α : Type} (mi off ln : Int32) (τ : Nat → Int32) (C : ClA α) (n : Nat) : Nat → (Nat → Nat → Int32) → (Nat → Nat → Int32)
  | 0, G => G
  | w + 1, G => stF mi off ln τ C n w (saG mi off ln τ C n G)
def bsF {α : Type} (mi off ln : Int32) (τ : Nat → Int32) (C : ClA α) (n : Nat) : Nat → (Nat → Nat → Int32) → Int32
  | 0, _ => 0
  | w + 1, G => sbN off τ C G n + bsF mi off ln τ C n w (saG mi off ln τ C n G)
def ksF {α : Type} (mi off ln : Int32) (τ : Nat → Int32) (C : ClA α) (n : Nat) : Nat → (Nat → Nat → Int32) → Int32
  | 0, _ => 0
  | w + 1, G => asN G n + ksF mi off ln τ C n w (saG mi off ln τ C n G)
def vsF {α : Type} (mi off ln : Int32) (τ : Nat → Int32) (C : ClA α) (n : Nat) : Nat → (Nat → Nat → Int32) → Nat
  | 0, _ => 0
  | w + 1, G => stN G n + vsF mi off ln τ C n w (saG mi off ln τ C n G)
theorem st_le (G : Nat → Nat → Int32) : ∀ k, stN G k ≤ k := by
  intro k
  induction k with
  | zero => exact Nat.le_refl _
  | succ k ih =>
    show stN G k + (if G k 7 = 1 then 0 else 1) ≤ k + 1
    split <;> omega
theorem isg_1 {S : FS} {d : Nat} (h : fA S 1 (12 * d + 7) = 1) : gR S d 7 = 1 := h
theorem isg_0 {S : FS} {d : Nat} (h : ¬ fA S 1 (12 * d + 7) = 1) : ¬ gR S d 7 = 1 := h
theorem st_y {G : Nat → Nat → Int32} {c : Nat} {v i0 : Int32} (h : v = i0 + nI (stN G c)) (hg : ¬ G c 7 = 1) : v + 1 = i0 + nI (stN G (c + 1)) := by
  show _ = i0 + nI (stN G c + (if G c 7 = 1 then 0 else 1))
  rw [if_neg hg, h, Int32.add_assoc, nI_1]
theorem st_n {G : Nat → Nat → Int32} {c : Nat} {v i0 : Int32} (h : v = i0 + nI (stN G c)) (hg : G c 7 = 1) : v = i0 + nI (stN G (c + 1)) := by
  show _ = i0 + nI (stN G c + (if G c 7 = 1 then 0 else 1))
  rw [if_pos hg, h]
  rfl
theorem asi_y {G : Nat → Nat → Int32} {c : Nat} {v i0 : Int32} (h : v = i0 + asN G c) (hg : ¬ G c 7 = 1) : v + askF (G c) = i0 + asN G (c + 1) := by
  show _ = i0 + (asN G c + (if G c 7 = 1 then 0 else askF (G c)))
  rw [if_neg hg, h, Int32.add_assoc]
theorem asi_n {G : Nat → Nat → Int32} {c : Nat} {v i0 : Int32} (h : v = i0 + asN G c) (hg : G c 7 = 1) : v = i0 + asN G (c + 1) := by
  show _ = i0 + (asN G c + (if G c 7 = 1 then 0 else askF (G c)))
  rw [if_pos hg, h, Int32.add_zero]
theorem sbi_y {α : Type} {off : Int32} {τ : Nat → Int32} {C : ClA α} {G : Nat → Nat → Int32} {c : Nat} {v i0 : Int32} (h : v = i0 + sbN off τ C G c) (hg : ¬ G c 7 = 1) : v + boF (moF off τ C (nI c) (G c)) (G c) = i0 + sbN off τ C G (c + 1) := by
  show _ = i0 + (sbN off τ C G c + boG off τ C (nI c) (G c))
  unfold boG
  rw [if_neg hg, h, Int32.add_assoc]
theorem sbi_n {α : Type} {off : Int32} {τ : Nat → Int32} {C : ClA α} {G : Nat → Nat → Int32} {c : Nat} {v i0 : Int32} (h : v = i0 + sbN off τ C G c) (hg : G c 7 = 1) : v = i0 + sbN off τ C G (c + 1) := by
  show _ = i0 + (sbN off τ C G c + boG off τ C (nI c) (G c))
  unfold boG
  rw [if_pos hg, h, Int32.add_zero]
/-- the sums of a Saturday -/
def SUM {α : Type} (off : Int32) (τ : Nat → Int32) (C : ClA α) (G : Nat → Nat → Int32) (k : Nat) (S T : FS) : Prop := fF T 0 36 = fF S 0 36 + sbN off τ C G k ∧ fF T 0 37 = fF S 0 37 + asN G k ∧ fF T 0 38 = fF S 0 38 + nI (stN G k)
section SM
variable {α : Type} {off : Int32} {τ : Nat → Int32} {C : ClA α} {G : Nat → Nat → Int32} {k : Nat} {S SL T U : FS} {g : Nat → Int32}
theorem sum_0 : SUM off τ C G 0 S S := ⟨(Int32.add_zero _).symm, (Int32.add_zero _).symm, (Int32.add_zero _).symm⟩
theorem sum_n (h : SUM off τ C G k S T) (hg : G k 7 = 1) : SUM off τ C G (k + 1) S T := ⟨sbi_n h.1 hg, asi_n h.2.1 hg, st_n h.2.2 hg⟩
theorem sum_y (h : SUM off τ C G k S SL) (hg : ¬ g 7 = 1) (e : g = G k) (hm : fF T 0 36 = fF SL 0 36 ∧ fF T 0 37 = fF SL 0 37 ∧ fF T 0 38 = fF SL 0 38) (h33 : fF T 0 33 = boF (moF off τ C (nI k) g) g) (h34 : fF T 0 34 = askF g)
    (u1 : fF U 0 36 = fF T 0 36 + fF T 0 33) (u2 : fF U 0 37 = fF T 0 37 + fF T 0 34) (u3 : fF U 0 38 = fF T 0 38 + 1) : SUM off τ C G (k + 1) S U := by
  subst e
  refine ⟨?_, ?_, ?_⟩
  · rw [u1, hm.1, h33]
    exact sbi_y h.1 hg
  · rw [u2, hm.2.1, h34]
    exact asi_y h.2.1 hg
  · rw [u3, hm.2.2]
    exact st_y h.2.2 hg
end SM
/-- what is left of w Saturdays when k are over -/
def STK {α : Type} (mi off ln : Int32) (τ : Nat → Int32) (C : ClA α) (n w k : Nat) (G0 G : Nat → Nat → Int32) (T : FS) : Prop := stF mi off ln τ C n (w - k) G = stF mi off ln τ C n w G0 ∧ fF T 0 36 + bsF mi off ln τ C n (w - k) G = bsF mi off ln τ C n w G0 ∧ fF T 0 37 + ksF mi off ln τ C n (w - k) G = ksF mi off ln τ C n w G0 ∧ ∃ t : Nat, fF T 0 38 = nI t ∧ t + vsF mi off ln τ C n (w - k) G = vsF mi off ln τ C n w G0
section STK_
variable {α : Type} {mi off ln : Int32} {τ : Nat → Int32} {C : ClA α} {n w k : Nat} {G0 : Nat → Nat → Int32} {S T U : FS}
theorem stk_0 {G : Nat → Nat → Int32} (h1 : fF T 0 36 = 0) (h2 : fF T 0 37 = 0) (h3 : fF T 0 38 = 0) (e : G = G0) : STK mi off ln τ C n w 0 G0 G T := by
  subst e
  exact ⟨rfl, by rw [h1]; exact Int32.zero_add _, by rw [h2]; exact Int32.zero_add _, 0, h3, Nat.zero_add _⟩
theorem stk_s (h : STK mi off ln τ C n w k G0 (cutF n (gR T)) T) (hk : k < w) (hG : ∀ d, d < n → gR U d = saG mi off ln τ C n (gR T) d) (hS : SUM off τ C (gR T) n T U) : STK mi off ln τ C n w (k + 1) G0 (cutF n (gR U)) U := by
  have e := cut_sa hG
  obtain ⟨h1, h2, h3, t, h4, h5⟩ := h
  obtain ⟨s1, s2, s3⟩ := hS
  have c1 : sbN off τ C (cutF n (gR T)) n = sbN off τ C (gR T) n := sb_cg (fun d hd => cut_at hd)
  have c2 : asN (cutF n (gR T)) n = asN (gR T) n := as_cg (fun d hd => cut_at hd)
  have c3 : stN (cutF n (gR T)) n = stN (gR T) n := st_cg (fun d hd => cut_at hd)
  rw [show w - k = w - (k + 1) + 1 by omega] at h1 h2 h3 h5
  unfold STK
  rw [e]
  refine ⟨h1, ?_, ?_, t + stN (gR T) n, ?_, ?_⟩
  · rw [← h2, s1, ← c1, Int32.add_assoc]
    rfl
  · rw [← h3, s2, ← c2, Int32.add_assoc]
    rfl
  · rw [s3, h4, nI_add]
  · rw [← h5, ← c3, Nat.add_assoc]
    rfl
theorem stk_e {G : Nat → Nat → Int32} (h : STK mi off ln τ C n w k G0 G T) (hk : w ≤ k) : G = stF mi off ln τ C n w G0 ∧ fF T 0 36 = bsF mi off ln τ C n w G0 ∧ fF T 0 37 = ksF mi off ln τ C n w G0 ∧ fF T 0 38 = nI (vsF mi off ln τ C n w G0) := by
  obtain ⟨h1, h2, h3, t, h4, h5⟩ := h
  rw [show w - k = 0 by omega] at h1 h2 h3 h5
  exact ⟨h1, (Int32.add_zero _).symm.trans h2, (Int32.add_zero _).symm.trans h3, by rw [h4, ← h5]; rfl⟩
end STK_
section AS
variable {α : Type} {off ln : Int32} {τ : Nat → Int32} {C : ClA α} {cn : Int32} {s : Nat → Int32} {m k : Nat} {g g' : Nat → Int32} {R : Bool} {v : Int32}
def ASI (off ln : Int32) (τ : Nat → Int32) (C : ClA α) (cn : Int32) (s : Nat → Int32) (m k : Nat) (g : Nat → Int32) (R : Bool) (v : Int32) : Prop := (v = 1 ∧ csN off ln τ C cn s (m - k) k g = R) ∨ (v = 0 ∧ R = false)
theorem asi_g (h : ASI off ln τ C cn s m k g R v) (hk : k < m) (hv : ¬ v = 0) (h7 : g 7 = 1) : ASI off ln τ C cn s m (k + 1) g' R 0 := Or.inr ⟨rfl, by
  rcases h with ⟨-, h⟩ | ⟨h, -⟩
  · exact cs_f h hk (Or.inl h7)
  · exact absurd h hv⟩
theorem asi_m (h : ASI off ln τ C cn s m k g R v) (hk : k < m) (hv : ¬ v = 0) (hm : ¬ askF g + moF off τ C cn g = s k) : ASI off ln τ C cn s m (k + 1) g' R 0 := Or.inr ⟨rfl, by
  rcases h with ⟨-, h⟩ | ⟨h, -⟩
  · exact cs_f h hk (Or.inr hm)
  · exact absurd h hv⟩
theorem asi_s (h : ASI off ln τ C cn s m k g R v) (hk : k < m) (hv : ¬ v = 0) (h7 : ¬ g 7 = 1) (hm : askF g + moF off τ C cn g = s k) (e : g' = visF 1 ln (moF off τ C cn g) g) : ASI off ln τ C cn s m (k + 1) g' R 1 := Or.inl ⟨rfl, by
  rcases h with ⟨-, h⟩ | ⟨h, -⟩
  · exact cs_s h hk h7 hm e
  · exact absurd h hv⟩
theorem asi_e (h : ASI off ln τ C cn s m k g R v) (he : m ≤ k ∨ v = 0) : v = i01 R := by
  rcases h with ⟨a, b⟩ | ⟨a, b⟩
  · rcases he with he | he
    · rw [cs_e b he, a]
      rfl
    · exact absurd (a.symm.trans he) (by decide)
  · rw [a, b]
    rfl
/-- nobody says no before k -/
theorem nb_y {off : Int32} {G : Nat → Nat → Int32} (h : v = if rfN off τ C G k = 0 then 1 else 0) (hg : G k 7 = 1 ∨ ¬ letF (G k) < moF off τ C (nI k) (G k)) (hv : ¬ v = 0) : (1 : Int32) = if rfN off τ C G (k + 1) = 0 then 1 else 0 := by
  have e : rfN off τ C G (k + 1) = rfN off τ C G k := by
    show rfN off τ C G k + (if ¬ G k 7 = 1 ∧ letF (G k) < moF off τ C (nI k) (G k) then 1 else 0) = _
    rw [if_neg (fun z => hg.elim (fun w => z.1 w) (fun w => w z.2)), Nat.add_zero]
  rw [e, if_pos (no_t h hv)]
theorem nb_n {off : Int32} {G : Nat → Nat → Int32} (h : v = if rfN off τ C G k = 0 then 1 else 0) (hg : (¬ G k 7 = 1 ∧ letF (G k) < moF off τ C (nI k) (G k)) ∨ v = 0) : (0 : Int32) = if rfN off τ C G (k + 1) = 0 then 1 else 0 := by
  have e : ¬ rfN off τ C G (k + 1) = 0 := by
    show ¬ rfN off τ C G k + (if ¬ G k 7 = 1 ∧ letF (G k) < moF off τ C (nI k) (G k) then 1 else 0) = 0
    rcases hg with hg | hg
    · rw [if_pos hg]
      omega
    · have := no_f h hg
      omega
  rw [if_neg e]
theorem gob_s {G : Nat → Nat → Int32} (h : v = nI (goN G k)) (hk : k < 6) (hg : G k 7 = 0 ∨ G k 7 = 1) : v ||| (G k 7 <<< (nI k &&& 31)) = nI (goN G (k + 1)) := by
  rcases hg with q | q
  · rw [q, ← go_n h (by rw [q]; decide)]
    have : ∀ k : Nat, k < 6 → (0 : Int32) <<< (nI k &&& 31) = 0 := by decide +kernel
    rw [this k hk]
    exact or_z v
  · rw [q]
    exact go_y h hk q
end AS
