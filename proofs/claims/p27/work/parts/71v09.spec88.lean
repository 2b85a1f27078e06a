/-- a Saturday: those before k have come -/
def saG {α : Type} (mi off ln : Int32) (τ : Nat → Int32) (C : ClA α) (k : Nat) (G : Nat → Nat → Int32) : Nat → Nat → Int32 := fun c => if c < k then vsG mi off ln τ C (nI c) (G c) else G c
/-- what those before k buy; ask for; how many of them come -/
def sbN {α : Type} (off : Int32) (τ : Nat → Int32) (C : ClA α) (G : Nat → Nat → Int32) : Nat → Int32
  | 0 => 0
  | k + 1 => sbN off τ C G k + boG off τ C (nI k) (G k)
def asN (G : Nat → Nat → Int32) : Nat → Int32
  | 0 => 0
  | k + 1 => asN G k + (if G k 7 = 1 then 0 else askF (G k))
def stN (G : Nat → Nat → Int32) : Nat → Nat
  | 0 => 0
  | k + 1 => stN G k + (if G k 7 = 1 then 0 else 1)
def goN (G : Nat → Nat → Int32) : Nat → Nat
  | 0 => 0
  | k + 1 => goN G k + (if G k 7 = 1 then 2 ^ k else 0)
def rfN {α : Type} (off : Int32) (τ : Nat → Int32) (C : ClA α) (G : Nat → Nat → Int32) : Nat → Nat
  | 0 => 0
  | k + 1 => rfN off τ C G k + (if ¬ G k 7 = 1 ∧ letF (G k) < moF off τ C (nI k) (G k) then 1 else 0)
section SA
variable {α : Type} {mi off ln : Int32} {τ : Nat → Int32} {C : ClA α} {G : Nat → Nat → Int32} {n c : Nat}
theorem sa_0 (H : Nat → Nat → Int32) (h : ∀ d, d < n → H d = G d) : ∀ d, d < n → H d = saG mi off ln τ C 0 G d := fun d hd => (h d hd).trans (if_neg (Nat.not_lt_zero d)).symm
theorem sa_at {H : Nat → Nat → Int32} (h : ∀ d, d < n → H d = saG mi off ln τ C c G d) (hc : c < n) : H c = G c := (h c hc).trans (if_neg (Nat.lt_irrefl c))
theorem sa_skip {H : Nat → Nat → Int32} (h : ∀ d, d < n → H d = saG mi off ln τ C c G d) (hc : c < n) (hg : H c 7 = 1) : ∀ d, d < n → H d = saG mi off ln τ C (c + 1) G d := by
  intro d hd
  have e := sa_at h hc
  by_cases q : d = c
  · subst q
    rw [e]
    rw [e] at hg
    unfold saG
    rw [if_pos (by omega)]
    unfold vsG
    rw [if_pos hg]
  · rw [h d hd]
    unfold saG
    by_cases w : d < c
    · rw [if_pos w, if_pos (by omega)]
    · rw [if_neg w, if_neg (by omega)]
theorem sa_step {H H' : Nat → Nat → Int32} (h : ∀ d, d < n → H d = saG mi off ln τ C c G d) (hc : c < n) (hg : ¬ H c 7 = 1) (h1 : ∀ d, d < n → ¬ d = c → H' d = H d) (h2 : H' c = visF mi ln (moF off τ C (nI c) (H c)) (H c)) : ∀ d, d < n → H' d = saG mi off ln τ C (c + 1) G d := by
  intro d hd
  have e := sa_at h hc
  by_cases q : d = c
  · subst q
    rw [h2]
    rw [e] at hg ⊢
    unfold saG
    rw [if_pos (by omega)]
    unfold vsG
    rw [if_neg hg]
  · rw [h1 d hd q, h d hd]
    unfold saG
    by_cases w : d < c
    · rw [if_pos w, if_pos (by omega)]
    · rw [if_neg w, if_neg (by omega)]
theorem sb_skip {v : Int32} {g : Nat → Int32} (h : v = sbN off τ C G c) (e : g = G c) (hg : g 7 = 1) : v = sbN off τ C G (c + 1) := by
  show v = sbN off τ C G c + boG off τ C (nI c) (G c)
  rw [h, ← e]
  unfold boG
  rw [if_pos hg, Int32.add_zero]
theorem sb_step {v : Int32} {g : Nat → Int32} (h : v = sbN off τ C G c) (e : g = G c) (hg : ¬ g 7 = 1) : v + boF (moF off τ C (nI c) g) g = sbN off τ C G (c + 1) := by
  show _ = sbN off τ C G c + boG off τ C (nI c) (G c)
  rw [h, ← e]
  unfold boG
  rw [if_neg hg]
theorem GB.vs {B : Nat} {cn : Int32} {g : Nat → Int32} (h : GB B g) (hB : B < 1000000) : GB (B + 1) (vsG mi off ln τ C cn g) := by
  unfold vsG
  split
  · exact h.mono (by omega)
  · exact h.vis hB
theorem sa_gb {B : Nat} {H : Nat → Nat → Int32} (h : ∀ d, d < n → H d = saG mi off ln τ C c G d) (hG : ∀ d, d < n → GB B (G d)) (hB : B < 1000000) : ∀ d, d < n → GB (B + 1) (H d) := fun d hd => by
  rw [h d hd]
  unfold saG
  split
  · exact (hG d hd).vs hB
  · exact (hG d hd).mono (by omega)
end SA
/-- all customers' kinds, the shop's counter -/
def CuF (S : FS) (h n pz : Nat) (τ : Nat → Int32) (C : Cls) (K : Nat → Nat) : Prop := (∀ c, c < n → fR S (21 + 6 * h + c) 2 = some (2 + K c) ∧ K c < 7) ∧ fR S (9 + h) 7 = some pz ∧ COK S pz ∧ CTX S pz (lstW 2 5 C) (lstW 3 1 C) (cds C) ∧ SAYS cdA τ C
theorem CuF.at {S : FS} {h n pz c : Nat} {τ : Nat → Int32} {C : Cls} {K : Nat → Nat} (k : CuF S h n pz τ C K) (hc : c < n) : CuC S h (21 + 6 * h + c) (K c) pz τ C := by
  obtain ⟨a, b, d, e, f⟩ := k
  exact ⟨⟨(a c hc).1, (a c hc).2, b, d, e⟩, f⟩
theorem CuF.fr {P : Nat → Nat → Prop} {S S' : FS} {h n pz : Nat} {τ : Nat → Int32} {C : Cls} {K : Nat → Nat} (k : CuF S h n pz τ C K) (hh : h < 3) (hn : n ≤ 6) (f : Fr P S S') (n1 : ∀ c, c < 6 → ¬ P (21 + 6 * h + c) 2) (n2 : ¬ P (9 + h) 7) (n3 : ∀ j k, 71 ≤ j → ¬ P j k) : CuF S' h n pz τ C K := by
  obtain ⟨a, b, d, e, g⟩ := k
  exact ⟨fun c hc => ⟨(f.R (lt71 (by omega)) (n1 c (by omega))).trans (a c hc).1, (a c hc).2⟩, (f.R (lt71 (by omega)) n2).trans b, d.fr f n3, e.keep d f n3, g⟩
theorem gx_same {P : Nat → Nat → Prop} {S S' : FS} {i q : Nat} (hF : Fr P S S') (hi : i < 39) (n1 : ∀ k, 3 ≤ k → k ≤ 9 → ¬ P i k) (n3 : ¬ P (i + 18) 99) : gX S' i q = gX S i q := by
  funext k
  unfold gX
  by_cases b : k = 0
  · rw [if_pos b, if_pos b]
  · rw [if_neg b, if_neg b]
    by_cases d : k < 8
    · rw [if_pos d, if_pos d]
      exact hF.F (lt71 (by omega)) (n1 _ (by omega) (by omega))
    · rw [if_neg d, if_neg d, hF.A (lt71 (by omega)) n3]
theorem gone_n {x y : Int32} (h : x = y) (k : y = 0) : ¬ x = 1 := fun z => by
  rw [h, k] at z
  exact absurd z (by decide)
/-- no more visits than 9999 are counted -/
def bdV (g : Nat → Int32) : Nat → Int32 := fun k => if k = 6 then (if g 6 < 9999 then g 6 else 9999) else g k
theorem bdV_id {g : Nat → Int32} (h : GB 9999 g) : bdV g = g := by
  obtain ⟨-, -, ⟨x, x1, x2⟩, -⟩ := h
  funext k
  unfold bdV
  by_cases q : k = 6
  · rw [if_pos q, q, x2]
    by_cases w : x < 9999
    · rw [if_pos (show nI x < 9999 from (nI_ltI (a := x) (b := 9999) (by omega) (by omega)).mpr w)]
    · obtain rfl : x = 9999 := by omega
      rfl
  · rw [if_neg q]
theorem bdV_vis {ln mo : Int32} {g : Nat → Int32} (h : GB 9999 g) : bdV (visF 1 ln mo g) = visF 0 ln mo g := by
  obtain ⟨-, -, ⟨x, x1, x2⟩, -⟩ := h
  funext k
  by_cases q : k = 6
  · subst q
    show (if visF 1 ln mo g 6 < 9999 then visF 1 ln mo g 6 else 9999) = (if ¬ (0 : Int32) = 0 ∨ g 6 < 9999 then g 6 + 1 else g 6)
    rw [vis_61, x2, nI_1]
    by_cases w : x < 9999
    · rw [if_pos (Or.inr (show nI x < 9999 from (nI_ltI (a := x) (b := 9999) (by omega) (by omega)).mpr w))]
      by_cases w2 : x + 1 < 9999
      · rw [if_pos (show nI (x + 1) < 9999 from (nI_ltI (a := x + 1) (b := 9999) (by omega) (by omega)).mpr w2)]
      · obtain rfl : x = 9998 := by omega
        rfl
    · obtain rfl : x = 9999 := by omega
      decide
  · show (if k = 6 then _ else visF 1 ln mo g k) = _
    rw [if_neg q]
    unfold visF
    by_cases a : k = 3
    · rw [if_pos a, if_pos a]
    · rw [if_neg a, if_neg a]
      by_cases b : k = 4
      · rw [if_pos b, if_pos b]
      · rw [if_neg b, if_neg b]
        by_cases c : k = 5
        · rw [if_pos c, if_pos c]
        · rw [if_neg c, if_neg c, if_neg q, if_neg q]
/-- the bits of those who are gone -/
theorem or_bit : ∀ c : Nat, c < 6 → ∀ x : Nat, x < 64 → x < 2 ^ c → nI x ||| ((1 : Int32) <<< (nI c &&& 31)) = nI (x + 2 ^ c) := by decide +kernel
theorem go_lt (G : Nat → Nat → Int32) : ∀ k, goN G k < 2 ^ k := by
  intro k
  induction k with
  | zero => exact (by decide : 0 < 2 ^ 0)
  | succ k ih =>
    show goN G k + (if G k 7 = 1 then 2 ^ k else 0) < 2 ^ (k + 1)
    rw [Nat.pow_succ]
    split <;> omega
theorem go_64 (G : Nat → Nat → Int32) {k : Nat} (h : k ≤ 6) : goN G k < 64 := Nat.lt_of_lt_of_le (go_lt G k) (Nat.pow_le_pow_right (by decide) h : 2 ^ k ≤ 2 ^ 6)
theorem go_y {G : Nat → Nat → Int32} {c : Nat} {v : Int32} (h : v = nI (goN G c)) (hc : c < 6) (hg : G c 7 = 1) : v ||| ((1 : Int32) <<< (nI c &&& 31)) = nI (goN G (c + 1)) := by
  show _ = nI (goN G c + (if G c 7 = 1 then 2 ^ c else 0))
  rw [if_pos hg, h]
  exact or_bit c hc _ (go_64 G (by omega)) (go_lt G c)
theorem go_n {G : Nat → Nat → Int32} {c : Nat} {v : Int32} (h : v = nI (goN G c)) (hg : ¬ G c 7 = 1) : v = nI (goN G (c + 1)) := by
  show _ = nI (goN G c + (if G c 7 = 1 then 2 ^ c else 0))
  rw [if_neg hg, h]
  rfl
theorem rf_y {α : Type} {off : Int32} {τ : Nat → Int32} {C : ClA α} {G : Nat → Nat → Int32} {c : Nat} {v : Int32} (h : v = nI (rfN off τ C G c)) (hg : ¬ G c 7 = 1) (hl : letF (G c) < moF off τ C (nI c) (G c)) : v + 1 = nI (rfN off τ C G (c + 1)) := by
  show _ = nI (rfN off τ C G c + (if ¬ G c 7 = 1 ∧ letF (G c) < moF off τ C (nI c) (G c) then 1 else 0))
  rw [if_pos ⟨hg, hl⟩, h]
  exact nI_1 _
theorem rf_n {α : Type} {off : Int32} {τ : Nat → Int32} {C : ClA α} {G : Nat → Nat → Int32} {c : Nat} {v : Int32} (h : v = nI (rfN off τ C G c)) (hg : G c 7 = 1 ∨ ¬ letF (G c) < moF off τ C (nI c) (G c)) : v = nI (rfN off τ C G (c + 1)) := by
  show _ = nI (rfN off τ C G c + (if ¬ G c 7 = 1 ∧ letF (G c) < moF off τ C (nI c) (G c) then 1 else 0))
  rw [if_neg (fun z => hg.elim (fun w => z.1 w) (fun w => w z.2)), h]
  rfl
theorem as_y {G : Nat → Nat → Int32} {c : Nat} {v : Int32} (h : v = asN G c) (hg : ¬ G c 7 = 1) : v + askF (G c) = asN G (c + 1) := by
  show _ = asN G c + (if G c 7 = 1 then 0 else askF (G c))
  rw [if_neg hg, h]
theorem as_n {G : Nat → Nat → Int32} {c : Nat} {v : Int32} (h : v = asN G c) (hg : G c 7 = 1) : v = asN G (c + 1) := by
  show _ = asN G c + (if G c 7 = 1 then 0 else askF (G c))
  rw [if_pos hg, h, Int32.add_zero]
/-- are the cuts seen what this customer would be cut -/
def csN {α : Type} (off ln : Int32) (τ : Nat → Int32) (C : ClA α) (c : Int32) (s : Nat → Int32) : Nat → Nat → (Nat → Int32) → Bool
  | 0, _, _ => true
  | m + 1, k, g => if g 7 = 1 ∨ ¬ askF g + moF off τ C c g = s k then false else csN off ln τ C c s m (k + 1) (visF 1 ln (moF off τ C c g) g)
section CS
variable {α : Type} {off ln : Int32} {τ : Nat → Int32} {C : ClA α} {cn : Int32} {s : Nat → Int32} {m k : Nat} {g g' : Nat → Int32} {R : Bool}
theorem cs_f (hI : csN off ln τ C cn s (m - k) k g = R) (hk : k < m) (h : g 7 = 1 ∨ ¬ askF g + moF off τ C cn g = s k) : R = false := by
  rw [← hI, show m - k = m - (k + 1) + 1 by omega]
  exact if_pos h
theorem cs_s (hI : csN off ln τ C cn s (m - k) k g = R) (hk : k < m) (h7 : ¬ g 7 = 1) (h : askF g + moF off τ C cn g = s k) (e : g' = visF 1 ln (moF off τ C cn g) g) : csN off ln τ C cn s (m - (k + 1)) (k + 1) g' = R := by
  rw [← hI, show m - k = m - (k + 1) + 1 by omega, e]
  exact (if_neg (fun z => z.elim h7 (fun w => w h))).symm
theorem cs_e (hI : csN off ln τ C cn s (m - k) k g = R) (hk : m ≤ k) : R = true := by
  rw [← hI, show m - k = 0 by omega]
  rfl
end CS
/-- how many bits are set, of six -/
def pc6 (x : Nat) : Nat := x % 2 + x / 2 % 2 + x / 4 % 2 + x / 8 % 2 + x / 16 % 2 + x / 32 % 2
theorem pc_add : ∀ c : Nat, c < 6 → ∀ x : Nat, x < 64 → x < 2 ^ c → pc6 (x + 2 ^ c) = pc6 x + 1 := by decide +kernel
theorem go_st (G : Nat → Nat → Int32) : ∀ n : Nat, n ≤ 6 → pc6 (goN G n) + stN G n = n := by
  intro n
  induction n with
  | zero => exact fun _ => (by decide : pc6 0 + 0 = 0)
  | succ n ih =>
    intro hn
    show pc6 (goN G n + (if G n 7 = 1 then 2 ^ n else 0)) + (stN G n + (if G n 7 = 1 then 0 else 1)) = n + 1
    have := ih (by omega)
    by_cases q : G n 7 = 1
    · rw [if_pos q, if_pos q, pc_add n (by omega) _ (go_64 G (by omega)) (go_lt G n)]
      omega
    · rw [if_neg q, if_neg q, Nat.add_zero]
      omega
theorem stay_r {G : Nat → Nat → Int32} {n : Nat} (hn : n ≤ 6) : nI n - nI (pc6 (goN G n)) = nI (stN G n) := by
  have := go_st G n hn
  rw [pk_sub (by omega)]
  exact congrArg nI (by omega)
theorem gx_set {S : FS} {i j q k : Nat} {v : Int32} : gX (setF S i 8 v) j q k = if j = i ∧ k = 6 then v else gX S j q k := by
  unfold gX
  by_cases a : k = 0
  · rw [if_pos a, if_pos a, if_neg (by omega)]
  · rw [if_neg a, if_neg a]
    by_cases b : k < 8
    · rw [if_pos b, if_pos b, fF_setF]
      by_cases c : j = i ∧ k = 6
      · rw [if_pos c, if_pos ⟨c.1, by omega⟩]
      · rw [if_neg c, if_neg (fun z => c ⟨z.1, by omega⟩)]
    · rw [if_neg b, if_neg b, if_neg (show ¬ (j = i ∧ k = 6) by omega), fA_setF]
theorem bd_step {SL : FS} {G : Nat → Nat → Int32} {h n c i : Nat} {K : Nat → Nat} {v : Int32} (hd : ∀ d, d < n → (fun d => gX SL (21 + 6 * h + d) (K d)) d = if d < c then bdV (G d) else G d) (hc : c < n) (hh : h < 3) (hg : 21 + 6 * h + c = i) (hv : v = if fF SL (21 + 6 * h + c) 8 < 9999 then fF SL (21 + 6 * h + c) 8 else 9999) : ∀ d, d < n → (fun d => gX (setF SL i 8 v) (21 + 6 * h + d) (K d)) d = if d < c + 1 then bdV (G d) else G d := by
  intro d hdn
  have e := hd d hdn
  subst hg
  by_cases q : d = c
  · subst q
    rw [if_neg (Nat.lt_irrefl d)] at e
    rw [if_pos (by omega)]
    have e2 : fF SL (21 + 6 * h + d) 8 = G d 6 := by rw [← e]; rfl
    rw [e2] at hv
    rw [← e] at hv ⊢
    funext k
    show gX (setF SL (21 + 6 * h + d) 8 v) (21 + 6 * h + d) (K d) k = bdV (gX SL (21 + 6 * h + d) (K d)) k
    unfold bdV
    by_cases w : k = 6
    · rw [if_pos w, w]
      rw [gx_set, if_pos ⟨rfl, rfl⟩]
      exact hv
    · rw [if_neg w, gx_set, if_neg (fun z => w z.2)]
  · have e3 : (fun d => gX (setF SL (21 + 6 * h + c) 8 v) (21 + 6 * h + d) (K d)) d = (fun d => gX SL (21 + 6 * h + d) (K d)) d := by
      funext k
      show gX (setF SL (21 + 6 * h + c) 8 v) (21 + 6 * h + d) (K d) k = gX SL (21 + 6 * h + d) (K d) k
      rw [gx_set, if_neg (by omega)]
    rw [e3, e]
    by_cases w : d < c
    · rw [if_pos w, if_pos (by omega)]
    · rw [if_neg w, if_neg (by omega)]
