/-- the questions' answers, by the customers' numbers G -/
abbrev isC (n : Nat) (x : Int32) : Prop := 0 ≤ x ∧ x ≤ nI n - 1
section PF
variable {α : Type}
def lostP (off ln : Int32) (τ : Nat → Int32) (C : ClA α) (n : Nat) (G : Nat → Nat → Int32) (x : Int32) : Int32 := if 0 ≤ x ∧ x ≤ 40 then nI (goN (stF 1 off ln τ C n x.toNatClampNeg (cutF n G)) n) else -2
def nobN (off ln : Int32) (τ : Nat → Int32) (C : ClA α) (n : Nat) : Nat → Nat → (Nat → Nat → Int32) → Int32
  | 0, _, _ => -5
  | m + 1, k, G => if rfN off τ C G n = 0 then nI k else nobN off ln τ C n m (k + 1) (saG 1 off ln τ C n G)
def nobP (off ln : Int32) (τ : Nat → Int32) (C : ClA α) (n : Nat) (G : Nat → Nat → Int32) : Int32 := nobN off ln τ C n 41 0 (cutF n G)
def leaN (off ln : Int32) (τ : Nat → Int32) (C : ClA α) (c q : Int32) : Nat → Nat → (Nat → Int32) → Int32
  | 0, _, _ => -5
  | m + 1, k, g => if moF off τ C c g ≤ q then nI k else leaN off ln τ C c q m (k + 1) (vsG 1 off ln τ C c g)
def leaP (off ln : Int32) (τ : Nat → Int32) (C : ClA α) (n : Nat) (G : Nat → Nat → Int32) (x q : Int32) : Int32 := if isC n x then if 0 ≤ q ∧ q ≤ 99 then leaN off ln τ C x q 41 0 (G x.toNatClampNeg) else -2 else -1
def overP (off ln pr : Int32) (τ : Nat → Int32) (C : ClA α) (n : Nat) (G : Nat → Nat → Int32) (x p y : Int32) : Int32 := if isC n x then if 1 ≤ p ∧ p ≤ 99 then if 1 ≤ y ∧ y ≤ 40 then (alN 1 off ln τ C x y.toNatClampNeg (G x.toNatClampNeg)).1 * pr - y * G x.toNatClampNeg 2 * p else -1000002 else -1000002 else -1000001
def onV (off ln pr : Int32) (τ : Nat → Int32) (C : ClA α) (g : Nat → Int32) (x : Int32) (y : Nat) (w : Int32) : Int32 := if w = 0 then (alN 1 off ln τ C x y g).1 else if w = 1 then (alN 1 off ln τ C x y g).1 * pr else if w = 2 then (alN 1 off ln τ C x y g).2 5 - g 5 else if w = 3 then (alN 1 off ln τ C x y g).2 3 else (alN 1 off ln τ C x y g).2 4
def onP (off ln pr : Int32) (τ : Nat → Int32) (C : ClA α) (n : Nat) (G : Nat → Nat → Int32) (x y w : Int32) : Int32 := if isC n x then if 0 ≤ w ∧ w ≤ 4 then if 0 ≤ y ∧ y ≤ 40 then onV off ln pr τ C (G x.toNatClampNeg) x y.toNatClampNeg w else -2 else -1 else -1
def absI (v : Int32) : Int32 := if v < 0 then -v else v
def neaF (off ln : Int32) (τ : Nat → Int32) (C : ClA α) (G : Nat → Nat → Int32) (y : Int32) (c : Nat) : Int32 := absI ((alN 1 off ln τ C (nI c) y.toNatClampNeg (G c)).1 - y * G c 2)
def neaN (f : Nat → Int32) : Nat → Int32 × Int32
  | 0 => (-5, 0)
  | k + 1 => if (neaN f k).1 < 0 ∨ f k < (neaN f k).2 then (nI k, f k) else neaN f k
def neaP (off ln : Int32) (τ : Nat → Int32) (C : ClA α) (n : Nat) (G : Nat → Nat → Int32) (y : Int32) : Int32 := if 1 ≤ y ∧ y ≤ 20 then (neaN (neaF off ln τ C G y) n).1 else -2
def daN (f : Nat → Int32) : Nat → Int32 × Int32
  | 0 => (0, -1)
  | k + 1 => if (daN f k).2 < f k then (nI k, f k) else daN f k
def darF (ln pr : Int32) (τ : Nat → Int32) (C : ClA α) (n : Nat) (G : Nat → Nat → Int32) (y : Nat) (o : Nat) : Int32 := bsF 1 (nI o) ln τ C n y (cutF n G) * pr
def darP (ln pr : Int32) (τ : Nat → Int32) (C : ClA α) (n : Nat) (G : Nat → Nat → Int32) (y w : Int32) : Int32 := if 0 ≤ w ∧ w ≤ 1 then if 1 ≤ y ∧ y ≤ 20 then (if w = 0 then (daN (darF ln pr τ C n G y.toNatClampNeg) 31).1 else (daN (darF ln pr τ C n G y.toNatClampNeg) 31).2) else -2 else -1
def whN (p : Nat → Bool) : Nat → Nat
  | 0 => 0
  | k + 1 => whN p k + (if p k = true then 2 ^ k else 0)
def whoP (off ln : Int32) (τ : Nat → Int32) (C : ClA α) (n : Nat) (G : Nat → Nat → Int32) (s : Nat → Int32) (z : Nat) : Int32 := nI (whN (fun c => csN off ln τ C (nI c) s z 0 (G c)) n)
def ofN (p : Nat → Bool) : Nat → Int32 × Int32
  | 0 => (0, -5)
  | k + 1 => if p (30 - k) = true then ((ofN p k).1 + 1, nI (30 - k)) else ofN p k
def offP (ln : Int32) (τ : Nat → Int32) (C : ClA α) (n : Nat) (G : Nat → Nat → Int32) (s : Nat → Int32) (z : Nat) (x w : Int32) : Int32 := if isC n x then if 0 ≤ w ∧ w ≤ 1 then (if w = 0 then (ofN (fun o => csN (nI o) ln τ C x s z 0 (G x.toNatClampNeg)) 31).1 else (ofN (fun o => csN (nI o) ln τ C x s z 0 (G x.toNatClampNeg)) 31).2) else -1 else -1
def ofV (off : Int32) (τ : Nat → Int32) (C : ClA α) (g : Nat → Int32) (x w : Int32) : Int32 := if w = 8 then moF off τ C x g else if w = 9 then askF g else if w = 10 then letF g else if w = 11 then (if letF g < moF off τ C x g then 1 else 0) else g w.toNatClampNeg
def ofP (off : Int32) (τ : Nat → Int32) (C : ClA α) (n : Nat) (G : Nat → Nat → Int32) (x w : Int32) : Int32 := if isC n x then if 0 ≤ w ∧ w ≤ 11 then ofV off τ C (G x.toNatClampNeg) x w else -1 else -1
def tldP (off ln pr : Int32) (n : Nat) (G : Nat → Nat → Int32) (w : Int32) : Int32 := if w = 0 then off else if w = 1 then pr else if w = 2 then ln else if w = 3 then nI (goN G n) else -1
def vitP (off pr : Int32) (τ : Nat → Int32) (C : ClA α) (n : Nat) (G : Nat → Nat → Int32) (x : Int32) : Int32 := if isC n x then if G x.toNatClampNeg 7 = 1 then -3 else boF (moF off τ C x (G x.toNatClampNeg)) (G x.toNatClampNeg) * pr else -1
def vitG (off ln : Int32) (τ : Nat → Int32) (C : ClA α) (n : Nat) (G : Nat → Nat → Int32) (x : Int32) : Nat → Nat → Int32 := fun d => if isC n x ∧ d = x.toNatClampNeg then vsG 0 off ln τ C x (G d) else G d
/-- loops of the reference -/
def NBI (off ln : Int32) (τ : Nat → Int32) (C : ClA α) (n k : Nat) (G : Nat → Nat → Int32) (R v : Int32) : Prop := (v = -5 ∧ nobN off ln τ C n (41 - k) k G = R) ∨ (¬ v < 0 ∧ v = R)
variable {off ln : Int32} {τ : Nat → Int32} {C : ClA α} {n k : Nat} {G G' : Nat → Nat → Int32} {R v v' c q : Int32} {g g' : Nat → Int32}
theorem nI_nn {k : Nat} (h : k < 2 ^ 31) : ¬ nI k < 0 := Int32.not_lt.mpr ((nI_leI (a := 0) (b := k) (by omega) h).mpr (Nat.zero_le _))
theorem nbi_y (h : NBI off ln τ C n k G R v) (hk : k ≤ 40) (hv : v < 0) (hr : rfN off τ C G n = 0) : NBI off ln τ C n (k + 1) G' R (nI k) := by
  refine Or.inr ⟨nI_nn (by omega), ?_⟩
  rcases h with ⟨-, h⟩ | ⟨h, -⟩
  · rw [← h, show 41 - k = 41 - (k + 1) + 1 by omega]
    exact (if_pos hr).symm
  · exact absurd hv h
theorem nbi_n (h : NBI off ln τ C n k G R v) (hk : k ≤ 40) (hv : v < 0) (hr : ¬ rfN off τ C G n = 0) (e : G' = saG 1 off ln τ C n G) : NBI off ln τ C n (k + 1) G' R (-5) := by
  refine Or.inl ⟨rfl, ?_⟩
  rcases h with ⟨-, h⟩ | ⟨h, -⟩
  · rw [← h, show 41 - k = 41 - (k + 1) + 1 by omega, e]
    exact (if_neg hr).symm
  · exact absurd hv h
theorem nbi_e (h : NBI off ln τ C n k G R v) (he : 41 ≤ k ∨ ¬ v < 0) : v = R := by
  rcases h with ⟨a, b⟩ | ⟨-, b⟩
  · rcases he with he | he
    · rw [show 41 - k = 0 by omega] at b
      exact a.trans b
    · exact absurd (by rw [a]; decide) he
  · exact b
def LEI (off ln : Int32) (τ : Nat → Int32) (C : ClA α) (c q : Int32) (k : Nat) (g : Nat → Int32) (R v w : Int32) : Prop := (v = -5 ∧ leaN off ln τ C c q (41 - k) k g = R ∧ (w = 0 → R = -5)) ∨ (¬ v < 0 ∧ v = R)
theorem lea_gone (h7 : g 7 = 1) (hq : ¬ moF off τ C c g ≤ q) : ∀ m k, leaN off ln τ C c q m k g = -5 := by
  intro m
  induction m with
  | zero => exact fun _ => rfl
  | succ m ih =>
    intro k
    show (if moF off τ C c g ≤ q then nI k else leaN off ln τ C c q m (k + 1) (vsG 1 off ln τ C c g)) = -5
    rw [if_neg hq, show vsG 1 off ln τ C c g = g from if_pos h7]
    exact ih _
theorem lei_y {w : Int32} (h : LEI off ln τ C c q k g R v w) (hk : k ≤ 40) (hv : v < 0) (hr : moF off τ C c g ≤ q) (w' : Int32) : LEI off ln τ C c q (k + 1) g' R (nI k) w' := by
  refine Or.inr ⟨nI_nn (by omega), ?_⟩
  rcases h with ⟨-, h, -⟩ | ⟨h, -⟩
  · rw [← h, show 41 - k = 41 - (k + 1) + 1 by omega]
    exact (if_pos hr).symm
  · exact absurd hv h
theorem lei_g {w : Int32} (h : LEI off ln τ C c q k g R v w) (hk : k ≤ 40) (hv : v < 0) (hr : ¬ moF off τ C c g ≤ q) (h7 : g 7 = 1) : LEI off ln τ C c q (k + 1) g R (-5) 0 := by
  rcases h with ⟨-, h, -⟩ | ⟨h, -⟩
  · rw [lea_gone h7 hr] at h
    exact Or.inl ⟨rfl, (lea_gone h7 hr _ _).trans h, fun _ => h.symm⟩
  · exact absurd hv h
theorem lei_n {w : Int32} (h : LEI off ln τ C c q k g R v w) (hk : k ≤ 40) (hv : v < 0) (hr : ¬ moF off τ C c g ≤ q) (h7 : ¬ g 7 = 1) (e : g' = visF 1 ln (moF off τ C c g) g) : LEI off ln τ C c q (k + 1) g' R (-5) 1 := by
  refine Or.inl ⟨rfl, ?_, fun z => absurd z (by decide)⟩
  rcases h with ⟨-, h, -⟩ | ⟨h, -⟩
  · rw [← h, show 41 - k = 41 - (k + 1) + 1 by omega, e]
    show _ = if moF off τ C c g ≤ q then nI k else leaN off ln τ C c q (41 - (k + 1)) (k + 1) (vsG 1 off ln τ C c g)
    rw [if_neg hr, show vsG 1 off ln τ C c g = visF 1 ln (moF off τ C c g) g from if_neg h7]
  · exact absurd hv h
theorem lei_e {w : Int32} (h : LEI off ln τ C c q k g R v w) (he : 41 ≤ k ∨ ¬ v < 0 ∨ w = 0) : v = R := by
  rcases h with ⟨a, b, d⟩ | ⟨-, b⟩
  · rcases he with he | he | he
    · rw [show 41 - k = 0 by omega] at b
      exact a.trans b
    · exact absurd (by rw [a]; decide) he
    · exact a.trans (d he).symm
  · exact b
theorem cs_cg {cn : Int32} {s s' : Nat → Int32} : ∀ (m k : Nat) (g : Nat → Int32), (∀ i, k ≤ i → i < k + m → s i = s' i) → csN off ln τ C cn s m k g = csN off ln τ C cn s' m k g := by
  intro m
  induction m with
  | zero => exact fun _ _ _ => rfl
  | succ m ih =>
    intro k g h
    show (if g 7 = 1 ∨ ¬ askF g + moF off τ C cn g = s k then false else csN off ln τ C cn s m (k + 1) (visF 1 ln (moF off τ C cn g) g)) = (if g 7 = 1 ∨ ¬ askF g + moF off τ C cn g = s' k then false else csN off ln τ C cn s' m (k + 1) (visF 1 ln (moF off τ C cn g) g))
    rw [h k (Nat.le_refl _) (by omega), ih (k + 1) _ (fun i a b => h i (by omega) (by omega))]
theorem wh_lt (p : Nat → Bool) : ∀ k, whN p k < 2 ^ k := by
  intro k
  induction k with
  | zero => exact (by decide : 0 < 2 ^ 0)
  | succ k ih =>
    show whN p k + (if p k = true then 2 ^ k else 0) < 2 ^ (k + 1)
    rw [Nat.pow_succ]
    split <;> omega
theorem wh_y {p : Nat → Bool} (h : v = nI (whN p k)) (hk : k < 6) (hp : p k = true) : v ||| ((1 : Int32) <<< (nI k &&& 31)) = nI (whN p (k + 1)) := by
  show _ = nI (whN p k + (if p k = true then 2 ^ k else 0))
  rw [if_pos hp, h]
  exact or_bit k hk _ (Nat.lt_of_lt_of_le (wh_lt p k) (Nat.pow_le_pow_right (by decide) (by omega) : 2 ^ k ≤ 2 ^ 6)) (wh_lt p k)
theorem wh_n {p : Nat → Bool} (h : v = nI (whN p k)) (hp : ¬ p k = true) : v = nI (whN p (k + 1)) := by
  show _ = nI (whN p k + (if p k = true then 2 ^ k else 0))
  rw [if_neg hp, h]
  rfl
theorem wh_z {p : Nat → Bool} (h : v = nI (whN p k)) (hp : ¬ p k = true) : v ||| 0 = nI (whN p (k + 1)) := by
  rw [or_z]
  exact wh_n h hp
theorem wh_cg {p p' : Nat → Bool} : ∀ {k : Nat}, (∀ d, d < k → p d = p' d) → whN p k = whN p' k := by
  intro k
  induction k with
  | zero => exact fun _ => rfl
  | succ k ih =>
    intro h
    show whN p k + (if p k = true then 2 ^ k else 0) = whN p' k + (if p' k = true then 2 ^ k else 0)
    rw [ih (fun d hd => h d (by omega)), h k (by omega)]
theorem i01_t2 {b : Bool} {r : Int32} (h : r = i01 b) (k : ¬ r = 0) : b = true := by
  cases b
  · exact absurd h k
  · rfl
theorem i01_f {b : Bool} {r : Int32} (h : r = i01 b) (k : r = 0) : ¬ b = true := fun q => by
  rw [h, q] at k
  exact absurd k (by decide)
/-- offs, from the largest down: k is one more than the next -/
theorem of_y {p : Nat → Bool} {v w : Int32} (hk : k ≤ 31) (hk1 : 1 ≤ k) (h : (v, w) = ofN p (31 - k)) (hp : p (k - 1) = true) : (v + 1, nI k - 1) = ofN p (31 - (k - 1)) := by
  rw [show 31 - (k - 1) = 31 - k + 1 by omega]
  show _ = if p (30 - (31 - k)) = true then ((ofN p (31 - k)).1 + 1, nI (30 - (31 - k))) else ofN p (31 - k)
  rw [show 30 - (31 - k) = k - 1 by omega, if_pos hp, ← h]
  obtain ⟨j, rfl⟩ : ∃ j, k = j + 1 := ⟨k - 1, by omega⟩
  rw [nI_pred]
  rfl
theorem of_n {p : Nat → Bool} {v w : Int32} (hk : k ≤ 31) (hk1 : 1 ≤ k) (h : (v, w) = ofN p (31 - k)) (hp : ¬ p (k - 1) = true) : (v, w) = ofN p (31 - (k - 1)) := by
  rw [show 31 - (k - 1) = 31 - k + 1 by omega]
  show _ = if p (30 - (31 - k)) = true then ((ofN p (31 - k)).1 + 1, nI (30 - (31 - k))) else ofN p (31 - k)
  rw [show 30 - (31 - k) = k - 1 by omega, if_neg hp]
  exact h
theorem da_y {f : Nat → Int32} {a b : Int32} (h : (a, b) = daN f k) (e : v = f k) (q : b < v) : (nI k, v) = daN f (k + 1) := by
  show _ = if (daN f k).2 < f k then (nI k, f k) else daN f k
  rw [← h, ← e, if_pos q]
theorem da_n {f : Nat → Int32} {a b : Int32} (h : (a, b) = daN f k) (e : v = f k) (q : ¬ b < v) : (a, b) = daN f (k + 1) := by
  show _ = if (daN f k).2 < f k then (nI k, f k) else daN f k
  rw [← h, ← e, if_neg q]
theorem ne_y {f : Nat → Int32} {a b : Int32} (h : (a, b) = neaN f k) (e : v = f k) (q : a < 0 ∨ v < b) : (nI k, v) = neaN f (k + 1) := by
  show _ = if (neaN f k).1 < 0 ∨ f k < (neaN f k).2 then (nI k, f k) else neaN f k
  rw [← h, ← e, if_pos q]
theorem ne_n {f : Nat → Int32} {a b : Int32} (h : (a, b) = neaN f k) (e : v = f k) (q1 : ¬ a < 0) (q2 : ¬ v < b) : (a, b) = neaN f (k + 1) := by
  show _ = if (neaN f k).1 < 0 ∨ f k < (neaN f k).2 then (nI k, f k) else neaN f k
  rw [← h, ← e, if_neg (fun z => z.elim q1 q2)]
end PF
theorem gr_open {S X : FS} (h : CA 4 (vec (setF S 0 15 1)) 1 89 89 (setF S 0 15 1) X) : (∀ d, d < 6 → gR X d = gR S d) ∧ fF X 0 2 = fF S 0 2 := by
  rw [vec15] at h
  refine ⟨fun d hd => ?_, (CA_slot h (j := 1) (by omega)).trans (vec_lo S (j := 1) (by omega))⟩
  funext k
  unfold gR
  by_cases a : k < 12
  · rw [if_pos a, if_pos a]
    exact (CA_1 h (by omega)).trans (vec_s S (by omega))
  · rw [if_neg a, if_neg a]
theorem gr_back {S X Y : FS} {B : Nat} (h : CA 4 (fA X 4) 0 89 89 X Y) (k : MI S X B) : (∀ d, d < 6 → gR Y d = gR S d) ∧ fF Y 0 2 = fF S 0 2 := by
  obtain ⟨-, b, -, -, -, -, g, -⟩ := MI_back h k
  refine ⟨fun d hd => ?_, b 2 (by omega) (by omega) (by omega) (Or.inl (by omega))⟩
  funext k
  unfold gR
  by_cases a : k < 12
  · rw [if_pos a, if_pos a]
    exact g _ (by omega)
  · rw [if_neg a, if_neg a]
theorem gr_Q {S X : FS} (k : QP S X) : ∀ d, d < 6 → gR X d = gR S d := fun d hd => by
  funext i
  unfold gR
  by_cases a : i < 12
  · rw [if_pos a, if_pos a]
    exact k.2.2.2.2.2.2 _ (by omega)
  · rw [if_neg a, if_neg a]
theorem HE.of7 {S T : FS} {h z : Nat} {τ : Nat → Int32} {C : ClU} (k : HE S h z τ C) (e : ∀ i, 7 ≤ i → i < 13 → fA T i = fA S i) : HE T h z τ C := by
  obtain ⟨h1, h2, h3, h4, h5, h6, h7⟩ := k
  refine ⟨by rw [e 8 (by omega) (by omega)]; exact h1, h2, by rw [e 7 (by omega) (by omega)]; exact h3, by rw [e 12 (by omega) (by omega)]; exact h4, h5, fun i c hc => ?_, h7⟩
  rw [e 9 (by omega) (by omega), e 10 (by omega) (by omega), e 11 (by omega) (by omega)]
  exact h6 i c hc
theorem HOX.of7 {S T : FS} {z : Nat} {τ : Nat → Int32} {C : ClU} (k : HOX S z τ C) (e3 : fF T 0 3 = fF S 0 3) (e : ∀ i, 7 ≤ i → i < 13 → fA T i = fA S i) : HOX T z τ C := by
  rcases k with ⟨a, b⟩ | ⟨h, a, b, c⟩
  · exact Or.inl ⟨e3.trans a, b⟩
  · exact Or.inr ⟨h, a, e3.trans b, c.of7 e⟩
theorem HOX.MI {S X : FS} {B z : Nat} {τ : Nat → Int32} {C : ClU} (k : HOX S z τ C) (h : MI S X B) : HOX X z τ C := k.of7 (h.f (by decide) rfl) (fun i a b => h.2.2.2.1 i (by omega) (by omega) (by omega) (by omega) (by omega) (by omega) (by omega))
theorem cut_cg {n : Nat} {G G' : Nat → Nat → Int32} (h : ∀ d, d < n → G d = G' d) : cutF n G = cutF n G' := by
  funext d
  unfold cutF
  by_cases a : d < n
  · rw [if_pos a, if_pos a, h d a]
  · rw [if_neg a, if_neg a]
theorem sa_7 {α : Type} {mi off ln : Int32} {τ : Nat → Int32} {C : ClA α} {n : Nat} {G : Nat → Nat → Int32} (h : ∀ d, d < n → G d 7 = 0 ∨ G d 7 = 1) : ∀ d, d < n → saG mi off ln τ C n G d 7 = 0 ∨ saG mi off ln τ C n G d 7 = 1 := fun d hd => by
  unfold saG vsG
  rw [if_pos hd]
  split
  · exact h d hd
  · show (if letF (G d) < _ ∧ G d 0 = 5 ∧ 3 ≤ nsF _ (G d) then 1 else G d 7) = 0 ∨ (if letF (G d) < _ ∧ G d 0 = 5 ∧ 3 ≤ nsF _ (G d) then 1 else G d 7) = 1
    split
    · exact Or.inr rfl
    · exact h d hd
theorem st_7 {α : Type} {mi off ln : Int32} {τ : Nat → Int32} {C : ClA α} {n : Nat} : ∀ (w : Nat) (G : Nat → Nat → Int32), (∀ d, d < n → G d 7 = 0 ∨ G d 7 = 1) → ∀ d, d < n → stF mi off ln τ C n w G d 7 = 0 ∨ stF mi off ln τ C n w G d 7 = 1 := by
  intro w
  induction w with
  | zero => exact fun _ h => h
  | succ w ih => exact fun G h => ih _ (sa_7 h)
theorem cut_7 {n : Nat} {G : Nat → Nat → Int32} (h : ∀ d, d < n → G d 7 = 0 ∨ G d 7 = 1) : ∀ d, d < n → cutF n G d 7 = 0 ∨ cutF n G d 7 = 1 := fun d hd => by
  rw [cut_at hd]
  exact h d hd
/-- a Saturday in mind -/
theorem cut_st {n : Nat} {X Y S : FS} {F : Nat → Nat → Int32} (h : cutF n (gR Y) = F) : ∀ d, d < n → gR Y d = F d := fun d hd => by rw [← h, cut_at hd]
section RQ
variable {α : Type} {off ln pr : Int32} {τ : Nat → Int32} {C : ClA α} {n k : Nat} {G : Nat → Nat → Int32} {x y p w v r : Int32}
theorem lost_r {Y : Nat → Nat → Int32} (hb : v = nI (goN Y n)) (hG : cutF n Y = stF 1 off ln τ C n x.toNatClampNeg (cutF n G)) (hx : 0 ≤ x ∧ x ≤ 40) : v = lostP off ln τ C n G x := by
  unfold lostP
  rw [if_pos hx, hb, ← hG]
  exact congrArg nI (go_cg (fun d hd => (cut_at hd).symm))
theorem nbi_s {Y Z : Nat → Nat → Int32} {R : Int32} (h : NBI off ln τ C n k (cutF n Y) R v) (hk : k ≤ 40) (hv : v < 0) (hr : (r = nI k ∧ rfN off τ C Y n = 0) ∨ (r = -5 ∧ ¬ rfN off τ C Y n = 0)) (e : Z = stF 1 off ln τ C n 1 (cutF n Y)) : NBI off ln τ C n (k + 1) Z R r := by
  have e2 : rfN off τ C (cutF n Y) n = rfN off τ C Y n := rf_cg (fun d hd => cut_at hd)
  rcases hr with ⟨a, b⟩ | ⟨a, b⟩
  · rw [a]
    exact nbi_y h hk hv (e2.trans b)
  · rw [a]
    exact nbi_n h hk hv (by rw [e2]; exact b) e
theorem lei_s {c q R u w' : Int32} {g g' : Nat → Int32} (h : LEI off ln τ C c q k g R v w) (hk : k ≤ 40) (hv : v < 0) (hr : (u = nI k ∧ moF off τ C c g ≤ q) ∨ (u = -5 ∧ ¬ moF off τ C c g ≤ q)) (hg : (g 7 = 1 ∧ w' = 0 ∧ g' = g) ∨ (¬ g 7 = 1 ∧ w' = 1 ∧ g' = visF 1 ln (moF off τ C c g) g)) : LEI off ln τ C c q (k + 1) g' R u w' := by
  rcases hr with ⟨a, b⟩ | ⟨a, b⟩
  · rw [a]
    exact lei_y h hk hv b w'
  · rw [a]
    rcases hg with ⟨c1, c2, c3⟩ | ⟨c1, c2, c3⟩
    · rw [c2, c3]
      exact lei_g h hk hv b c1
    · rw [c2]
      exact lei_n h hk hv b c1 c3
theorem over_r {b : Int32} {g' : Nat → Int32} (hc : isC n x) (hp : 1 ≤ p ∧ p ≤ 99) (hy : 1 ≤ y ∧ y ≤ 40) (h : (b, g') = alN 1 off ln τ C x y.toNatClampNeg (G x.toNatClampNeg)) : b * pr - y * G x.toNatClampNeg 2 * p = overP off ln pr τ C n G x p y := by
  unfold overP
  rw [if_pos hc, if_pos hp, if_pos hy, ← h]
theorem over_1 (hc : ¬ isC n x) : (-1000001 : Int32) = overP off ln pr τ C n G x p y := (if_neg hc).symm
theorem over_2 (hc : isC n x) (h : ¬ (1 ≤ p ∧ p ≤ 99) ∨ ¬ (1 ≤ y ∧ y ≤ 40)) : (-1000002 : Int32) = overP off ln pr τ C n G x p y := by
  unfold overP
  rw [if_pos hc]
  by_cases hp : 1 ≤ p ∧ p ≤ 99
  · rw [if_pos hp, if_neg (h.resolve_left (fun z => z hp))]
  · rw [if_neg hp]
theorem on_1 (h : ¬ isC n x ∨ ¬ (0 ≤ w ∧ w ≤ 4)) : (-1 : Int32) = onP off ln pr τ C n G x y w := by
  unfold onP
  by_cases hc : isC n x
  · rw [if_pos hc, if_neg (h.resolve_left (fun z => z hc))]
  · rw [if_neg hc]
theorem on_2 (hc : isC n x) (hw : 0 ≤ w ∧ w ≤ 4) (h : ¬ (0 ≤ y ∧ y ≤ 40)) : (-2 : Int32) = onP off ln pr τ C n G x y w := by
  unfold onP
  rw [if_pos hc, if_pos hw, if_neg h]
theorem on_3 (hc : isC n x) (hw : 0 ≤ w ∧ w ≤ 4) (h : 0 ≤ y ∧ y ≤ 40) : onV off ln pr τ C (G x.toNatClampNeg) x y.toNatClampNeg w = onP off ln pr τ C n G x y w := by
  unfold onP
  rw [if_pos hc, if_pos hw, if_pos h]
theorem on_v {b : Int32} {Y : Nat} {g g' : Nat → Int32} (h : (b, g') = alN 1 off ln τ C x Y g) (hr : (w = 0 ∧ r = b) ∨ (¬ w = 0 ∧ w = 1 ∧ r = b * pr) ∨ (¬ w = 0 ∧ ¬ w = 1 ∧ w = 2 ∧ r = g' 5 - g 5) ∨ (¬ w = 0 ∧ ¬ w = 1 ∧ ¬ w = 2 ∧ w = 3 ∧ r = g' 3) ∨ (¬ w = 0 ∧ ¬ w = 1 ∧ ¬ w = 2 ∧ ¬ w = 3 ∧ r = g' 4)) : r = onV off ln pr τ C g x Y w := by
  unfold onV
  rw [← h]
  rcases hr with ⟨a, e⟩ | ⟨a, b, e⟩ | ⟨a, b, c, e⟩ | ⟨a, b, c, d, e⟩ | ⟨a, b, c, d, e⟩
  · rw [if_pos a]
    exact e
  · rw [if_neg a, if_pos b]
    exact e
  · rw [if_neg a, if_neg b, if_pos c]
    exact e
  · rw [if_neg a, if_neg b, if_neg c, if_pos d]
    exact e
  · rw [if_neg a, if_neg b, if_neg c, if_neg d]
    exact e
theorem nea_r {b : Int32} (h1 : 1 ≤ y ∧ y ≤ 20) (h : (v, b) = neaN (neaF off ln τ C G y) n) : v = neaP off ln τ C n G y := by
  unfold neaP
  rw [if_pos h1, ← h]
theorem dar_r {a b : Int32} (hw : 0 ≤ w ∧ w ≤ 1) (hy : 1 ≤ y ∧ y ≤ 20) (h : (a, b) = daN (darF ln pr τ C n G y.toNatClampNeg) 31) : (w = 0 → a = darP ln pr τ C n G y w) ∧ (¬ w = 0 → b = darP ln pr τ C n G y w) := by
  unfold darP
  rw [if_pos hw, if_pos hy, ← h]
  exact ⟨fun q => (if_pos q).symm, fun q => (if_neg q).symm⟩
theorem dar_1 (hw : ¬ (0 ≤ w ∧ w ≤ 1)) : (-1 : Int32) = darP ln pr τ C n G y w := (if_neg hw).symm
theorem dar_2 (hw : 0 ≤ w ∧ w ≤ 1) (hy : ¬ (1 ≤ y ∧ y ≤ 20)) : (-2 : Int32) = darP ln pr τ C n G y w := by
  unfold darP
  rw [if_pos hw, if_neg hy]
theorem off_r {s : Nat → Int32} {z : Nat} {a b : Int32} (hc : isC n x) (hw : 0 ≤ w ∧ w ≤ 1) (h : (a, b) = ofN (fun o => csN (nI o) ln τ C x s z 0 (G x.toNatClampNeg)) 31) : (w = 0 → a = offP ln τ C n G s z x w) ∧ (¬ w = 0 → b = offP ln τ C n G s z x w) := by
  unfold offP
  rw [if_pos hc, if_pos hw, ← h]
  exact ⟨fun q => (if_pos q).symm, fun q => (if_neg q).symm⟩
theorem off_1 {s : Nat → Int32} {z : Nat} (h : ¬ isC n x ∨ ¬ (0 ≤ w ∧ w ≤ 1)) : (-1 : Int32) = offP ln τ C n G s z x w := by
  unfold offP
  by_cases hc : isC n x
  · rw [if_pos hc, if_neg (h.resolve_left (fun z => z hc))]
  · rw [if_neg hc]
theorem lea_1 (h : ¬ isC n x) : (-1 : Int32) = leaP off ln τ C n G x w := (if_neg h).symm
theorem lea_2 (hc : isC n x) (h : ¬ (0 ≤ w ∧ w ≤ 99)) : (-2 : Int32) = leaP off ln τ C n G x w := by
  unfold leaP
  rw [if_pos hc, if_neg h]
theorem lea_3 (hc : isC n x) (h : 0 ≤ w ∧ w ≤ 99) : leaN off ln τ C x w 41 0 (G x.toNatClampNeg) = leaP off ln τ C n G x w := by
  unfold leaP
  rw [if_pos hc, if_pos h]
end RQ
theorem al_2 {α : Type} {mi off ln : Int32} {τ : Nat → Int32} {C : ClA α} {c : Int32} : ∀ (n : Nat) (g : Nat → Int32), (alN mi off ln τ C c n g).2 2 = g 2 := by
  intro n
  induction n with
  | zero => exact fun _ => rfl
  | succ n ih =>
    intro g
    show (alN mi off ln τ C c n (vsG mi off ln τ C c g)).2 2 = g 2
    rw [ih]
    unfold vsG
    split <;> rfl
