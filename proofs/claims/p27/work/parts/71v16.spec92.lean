section U9
variable {α β : Type} {off ln pr : Int32} {τ : Nat → Int32} {C : ClA α} {D : ClA β} {n : Nat} {G : Nat → Nat → Int32}
theorem lost_ae (h : AE τ C D) (x : Int32) : lostP off ln τ C n G x = lostP off ln τ D n G x := by unfold lostP; rw [st_ae h]
theorem nobP_ae (h : AE τ C D) : nobP off ln τ C n G = nobP off ln τ D n G := by unfold nobP; rw [nob_ae h]
theorem leaP_ae (h : AE τ C D) (x q : Int32) : leaP off ln τ C n G x q = leaP off ln τ D n G x q := by unfold leaP; rw [lea_ae h]
theorem over_ae (h : AE τ C D) (x p y : Int32) : overP off ln pr τ C n G x p y = overP off ln pr τ D n G x p y := by unfold overP; rw [al_ae h]
theorem on_ae (h : AE τ C D) (x y w : Int32) : onP off ln pr τ C n G x y w = onP off ln pr τ D n G x y w := by unfold onP onV; rw [al_ae h]
theorem nea_ae (h : AE τ C D) (y : Int32) : neaP off ln τ C n G y = neaP off ln τ D n G y := by
  unfold neaP
  rw [show neaF off ln τ C G y = neaF off ln τ D G y from funext (fun c => by unfold neaF; rw [al_ae h])]
theorem dar_ae (h : AE τ C D) (y w : Int32) : darP ln pr τ C n G y w = darP ln pr τ D n G y w := by
  unfold darP
  rw [show darF ln pr τ C n G y.toNatClampNeg = darF ln pr τ D n G y.toNatClampNeg from funext (fun c => by unfold darF; rw [bs_ae h])]
theorem who_ae (h : AE τ C D) (s : Nat → Int32) (z : Nat) : whoP off ln τ C n G s z = whoP off ln τ D n G s z := by
  unfold whoP
  rw [show (fun c => csN off ln τ C (nI c) s z 0 (G c)) = (fun c => csN off ln τ D (nI c) s z 0 (G c)) from funext (fun c => cs_ae h _ _ _ _ _)]
theorem off_ae (h : AE τ C D) (s : Nat → Int32) (z : Nat) (x w : Int32) : offP ln τ C n G s z x w = offP ln τ D n G s z x w := by
  unfold offP
  rw [show (fun o => csN (nI o) ln τ C x s z 0 (G x.toNatClampNeg)) = (fun o => csN (nI o) ln τ D x s z 0 (G x.toNatClampNeg)) from funext (fun o => cs_ae h _ _ _ _ _)]
theorem of_ae (h : AE τ C D) (x w : Int32) : ofP off τ C n G x w = ofP off τ D n G x w := by unfold ofP ofV; rw [h]
theorem vit_ae (h : AE τ C D) (x : Int32) : vitP off pr τ C n G x = vitP off pr τ D n G x := by unfold vitP; rw [h]
theorem vitG_ae (h : AE τ C D) (x : Int32) : vitG off ln τ C n G x = vitG off ln τ D n G x := by
  unfold vitG
  rw [show (vsG 0 off ln τ C x) = vsG 0 off ln τ D x from funext (fun g => vs_ae h x g)]
end U9
/-- all bounds of a customer's numbers -/
def GC (B : Nat) (g : Nat → Int32) : Prop := GB B g ∧ (∃ t : Nat, t < 7 ∧ g 0 = nI t) ∧ (∃ t : Nat, t ≤ 9 ∧ g 1 = nI t) ∧ (∃ t : Nat, 10 ≤ t ∧ t ≤ 99 ∧ g 2 = nI t) ∧ (∃ t : Nat, t ≤ 99 ∧ g 4 = nI t) ∧ ∀ k, k < 4 → ∃ t : Nat, t ≤ 9 ∧ g (8 + k) = nI t
theorem GC.mono {A B : Nat} {g : Nat → Int32} (h : GC A g) (k : A ≤ B) : GC B g := ⟨h.1.mono k, h.2⟩
theorem GC.vis {B : Nat} {mi ln mo : Int32} {g : Nat → Int32} (h : GC B g) (hB : B < 1000000) : GC (B + 1) (visF mi ln mo g) := by
  obtain ⟨h1, h2, h3, h4, h5, h6⟩ := h
  refine ⟨h1.vis hB, ?_, ?_, ?_, cl_nat 99 (by decide) _, fun k hk => ?_⟩
  · rw [vis_out (Or.inl (by omega))]
    exact h2
  · rw [vis_out (Or.inl (by omega))]
    exact h3
  · rw [vis_out (Or.inl (by omega))]
    exact h4
  · rw [vis_out (Or.inr (by omega))]
    exact h6 k hk
theorem GC.vs {α : Type} {B : Nat} {mi off ln : Int32} {τ : Nat → Int32} {C : ClA α} {c : Int32} {g : Nat → Int32} (h : GC B g) (hB : B < 1000000) : GC (B + 1) (vsG mi off ln τ C c g) := by
  unfold vsG
  split
  · exact h.mono (by omega)
  · exact h.vis hB
theorem n_of {x : Int32} {b : Nat} (h0 : 0 ≤ x.toInt) (hb : x.toInt ≤ b) : ∃ t : Nat, t ≤ b ∧ x = nI t := by
  obtain ⟨j, hj, rfl⟩ := nI_of (x := x) (fun q => by
    have := Int32.lt_iff_toInt_lt.mp q
    rw [show (0 : Int32).toInt = 0 from rfl] at this
    omega)
  rw [nI_toInt hj] at hb
  exact ⟨j, by omega, rfl⟩
theorem mxn_n {m b : Nat} {y : Int32} (hm : m ≤ b) (hb : b < 2 ^ 31) (h : y.toInt ≤ b) : ∃ t : Nat, t ≤ b ∧ mx (nI m) y = nI t := by
  unfold mx
  split
  · exact ⟨m, hm, rfl⟩
  · rename_i c
    have := Int32.le_iff_toInt_le.mp (Int32.not_lt.mp c)
    rw [nI_toInt (by omega)] at this
    exact n_of (by omega) h
theorem sub_i {a b : Nat} (ha : a < 100000) (hb : b < 100000) : (nI a - nI b).toInt = (a : Int) - b := by
  rw [Int32.toInt_sub, nI_toInt (by omega), nI_toInt (by omega), Int.bmod_eq_of_le (by omega) (by omega)]
theorem ask_b {B : Nat} {g : Nat → Int32} (h : GC B g) : ∃ t : Nat, t ≤ 108 ∧ askF g = nI t := by
  obtain ⟨-, -, -, ⟨w, -, w2, ew⟩, ⟨o, o1, eo⟩, hx⟩ := h
  have h1 : ∃ t : Nat, t ≤ 99 ∧ mx 1 (g 2 - g 4) = nI t := mxn_n (m := 1) (by omega) (by omega) (by rw [ew, eo, sub_i (by omega) (by omega)]; omega)
  have h2 : g 2 / 2 = nI (w / 2) := by rw [ew]; exact pk_div (a := w) (d := 2) (by omega) (by omega) (by omega)
  unfold askF
  split
  · obtain ⟨t, a, b⟩ := h1
    exact ⟨t, by omega, b⟩
  · split
    · exact ⟨w / 2, by omega, h2⟩
    · split
      · obtain ⟨t, a, b⟩ := h1
        rw [b]
        obtain ⟨s, c, d⟩ := mxn_n (m := 1) (b := 99) (y := nI t - 2) (by omega) (by omega) (by rw [show (2 : Int32) = nI 2 from rfl, sub_i (by omega) (by omega)]; omega)
        exact ⟨s, by omega, d⟩
      · split
        · obtain ⟨e, he, ee⟩ := hx ((g 6).toNatClampNeg % 4) (Nat.mod_lt _ (by omega))
          rw [h2, ee, nI_add]
          exact ⟨w / 2 + e, by omega, rfl⟩
        · exact ⟨w, by omega, ew⟩
theorem addc_b {α : Type} {E : Int32 → Int32 → Bool} {τ : Nat → Int32} {c : Nat × Int32 × Option (Nat × α)} (h : ∃ t : Nat, t ≤ 99 ∧ c.2.1 = nI t) : -99 ≤ (addc E τ c).toInt ∧ (addc E τ c).toInt ≤ 99 := by
  obtain ⟨t, a, b⟩ := h
  unfold addc
  split
  · split
    · split
      · rw [b, nI_toInt (by omega)]
        omega
      · rw [b, Int32.toInt_neg, nI_toInt (by omega), Int.bmod_eq_of_le (by omega) (by omega)]
        omega
    · exact ⟨by decide, by decide⟩
  · exact ⟨by decide, by decide⟩
theorem add_b {α : Type} {E : Int32 → Int32 → Bool} {τ : Nat → Int32} : ∀ (C : ClA α) (s : Int32) (m : Nat), m + C.length ≤ 10 → (∀ c ∈ C, ∃ t : Nat, t ≤ 99 ∧ c.2.1 = nI t) → (-(99 * m : Int) ≤ s.toInt ∧ s.toInt ≤ 99 * m) → -990 ≤ (addC E τ C s).toInt ∧ (addC E τ C s).toInt ≤ 990 := by
  intro C
  induction C with
  | nil => exact fun s m hm _ hs => ⟨by show -990 ≤ s.toInt; omega, by show s.toInt ≤ 990; omega⟩
  | cons c C ih =>
    intro s m hm hC hs
    rw [List.length_cons] at hm
    have hc := addc_b (E := E) (τ := τ) (hC c List.mem_cons_self)
    refine ih _ (m + 1) (by omega) (fun d hd => hC d (List.mem_cons_of_mem c hd)) ?_
    rw [Int32.toInt_add, Int.bmod_eq_of_le (by omega) (by omega)]
    omega
theorem mo_b {α : Type} {off c : Int32} {τ : Nat → Int32} {C : ClA α} {B : Nat} {g : Nat → Int32} (hC : N99 C) (ho : ∃ o : Nat, o ≤ 30 ∧ off = nI o) (hg : GC B g) : ∃ m : Nat, m ≤ 1040 ∧ moF off τ C c g = nI m := by
  obtain ⟨o, ho, eo⟩ := ho
  obtain ⟨t, ht, et⟩ := hg.1.1
  have hb := add_b (E := Eg c g) (τ := τ) C 0 0 (by have := hC.1; omega) hC.2 ⟨by decide, by decide⟩
  unfold moF moX
  have e : (off + g 3 + addC (Eg c g) τ C 0).toInt = o + t + (addC (Eg c g) τ C 0).toInt := by
    rw [Int32.toInt_add, eo, et, nI_add, nI_toInt (by omega), Int.bmod_eq_of_le (by omega) (by omega)]
    omega
  split
  · rename_i q
    have := Int32.lt_iff_toInt_lt.mp q
    rw [show (0 : Int32).toInt = 0 from rfl] at this
    exact n_of (by omega) (by rw [e]; omega)
  · exact ⟨0, by omega, rfl⟩
/-- what is added to what one asks for -/
def adF (mo : Int32) (g : Nat → Int32) : Int32 := if letF g < mo then mo / 2 else mo
theorem ad_b {mo : Int32} {g : Nat → Int32} (h : ∃ m : Nat, m ≤ 1040 ∧ mo = nI m) : ∃ m : Nat, m ≤ 1040 ∧ adF mo g = nI m := by
  obtain ⟨m, hm, em⟩ := h
  unfold adF
  split
  · rw [em]
    exact ⟨m / 2, by omega, pk_div (a := m) (d := 2) (by omega) (by omega) (by omega)⟩
  · exact ⟨m, hm, em⟩
section SB
variable {α : Type} {off ln : Int32} {τ : Nat → Int32} {C : ClA α} {B : Nat}
theorem sab_b {n : Nat} {G : Nat → Nat → Int32} (hC : N99 C) (ho : ∃ o : Nat, o ≤ 30 ∧ off = nI o) : ∀ k, k ≤ n → (∀ d, d < n → GC B (G d)) → ∃ a b : Nat, a ≤ 108 * k ∧ b ≤ 1040 * k ∧ asN G k = nI a ∧ sbN off τ C G k = nI (a + b) := by
  intro k
  induction k with
  | zero => exact fun _ _ => ⟨0, 0, by omega, by omega, rfl, rfl⟩
  | succ k ih =>
    intro hk hG
    obtain ⟨a, b, ha, hb, ea, eb⟩ := ih (by omega) hG
    show ∃ a' b' : Nat, a' ≤ 108 * (k + 1) ∧ b' ≤ 1040 * (k + 1) ∧ asN G k + (if G k 7 = 1 then 0 else askF (G k)) = nI a' ∧ sbN off τ C G k + boG off τ C (nI k) (G k) = nI (a' + b')
    unfold boG
    by_cases q : G k 7 = 1
    · rw [if_pos q, if_pos q, Int32.add_zero, Int32.add_zero]
      exact ⟨a, b, by omega, by omega, ea, eb⟩
    · rw [if_neg q, if_neg q]
      obtain ⟨x, hx, ex⟩ := ask_b (hG k (by omega))
      obtain ⟨m, hm, em⟩ := ad_b (g := G k) (mo_b (off := off) (c := nI k) (τ := τ) hC ho (hG k (by omega)))
      refine ⟨a + x, b + m, by omega, by omega, by rw [ea, ex, nI_add], ?_⟩
      show sbN off τ C G k + (askF (G k) + adF _ (G k)) = _
      rw [eb, ex, em, nI_add, nI_add]
      exact congrArg nI (by omega)
theorem sa_gc {mi : Int32} {n : Nat} {G : Nat → Nat → Int32} (hB : B < 1000000) (h : ∀ d, d < n → GC B (G d)) : ∀ d, d < n → GC (B + 1) (saG mi off ln τ C n G d) := fun d hd => by
  unfold saG
  rw [if_pos hd]
  exact (h d hd).vs hB
/-- how much too much there is in w Saturdays -/
def meN (off ln : Int32) (τ : Nat → Int32) (C : ClA α) (n : Nat) : Nat → (Nat → Nat → Int32) → Nat
  | 0, _ => 0
  | w + 1, G => (sbN off τ C G n - asN G n).toNatClampNeg + meN off ln τ C n w (saG 1 off ln τ C n G)
theorem me_b {n : Nat} (hC : N99 C) (hn : n ≤ 6) (ho : ∃ o : Nat, o ≤ 30 ∧ off = nI o) : ∀ (w B : Nat) (G : Nat → Nat → Int32), B + w < 1000000 → (∀ d, d < n → GC B (G d)) → meN off ln τ C n w G ≤ 6240 * w ∧ ∃ a : Nat, a ≤ 648 * w ∧ ksF 1 off ln τ C n w G = nI a ∧ bsF 1 off ln τ C n w G = nI (a + meN off ln τ C n w G) := by
  intro w
  induction w with
  | zero => exact fun B G _ _ => ⟨by show 0 ≤ 0; omega, 0, by omega, rfl, rfl⟩
  | succ w ih =>
    intro B G hB hG
    obtain ⟨a, b, ha, hb, ea, eb⟩ := sab_b (off := off) (τ := τ) hC ho n (Nat.le_refl n) hG
    have eN : (sbN off τ C G n - asN G n).toNatClampNeg = b := by
      rw [ea, eb, pk_sub (by omega), nI_clamp (by omega)]
      omega
    obtain ⟨i1, a2, i2, i3, i4⟩ := ih (B + 1) (saG 1 off ln τ C n G) (by omega) (sa_gc (by omega) hG)
    show (sbN off τ C G n - asN G n).toNatClampNeg + meN off ln τ C n w (saG 1 off ln τ C n G) ≤ 6240 * (w + 1) ∧ ∃ a : Nat, a ≤ 648 * (w + 1) ∧ asN G n + ksF 1 off ln τ C n w (saG 1 off ln τ C n G) = nI a ∧ sbN off τ C G n + bsF 1 off ln τ C n w (saG 1 off ln τ C n G) = nI (a + ((sbN off τ C G n - asN G n).toNatClampNeg + meN off ln τ C n w (saG 1 off ln τ C n G)))
    rw [eN]
    refine ⟨by omega, a + a2, by omega, by rw [ea, i3, nI_add], ?_⟩
    rw [eb, i4, nI_add]
    exact congrArg nI (by omega)
end SB
/-- a fraction in lowest terms -/
def lI (x : Nat) : Int64 := (nI x).toInt64
def frP (a b : Nat) (w : Int32) : Int64 := if b = 0 then -9223372036854775808 else if w = 0 then lI (a / Nat.gcd a b) else lI (b / Nat.gcd a b)
def oddP {α : Type} (off ln : Int32) (τ : Nat → Int32) (C : ClA α) (n : Nat) (G : Nat → Nat → Int32) (x w : Int32) : Int64 := if 0 ≤ x ∧ x ≤ 40 then if 0 ≤ w ∧ w ≤ 1 then frP (rfN off τ C (stF 1 off ln τ C n x.toNatClampNeg (cutF n G)) n) (stN (stF 1 off ln τ C n x.toNatClampNeg (cutF n G)) n) w else -9223372036854775808 else -9223372036854775808
def meaP {α : Type} (off ln : Int32) (τ : Nat → Int32) (C : ClA α) (n : Nat) (G : Nat → Nat → Int32) (x w : Int32) : Int64 := if 1 ≤ x ∧ x ≤ 40 then if 0 ≤ w ∧ w ≤ 1 then frP (meN off ln τ C n x.toNatClampNeg (cutF n G)) (vsF 1 off ln τ C n x.toNatClampNeg (cutF n G)) w else -9223372036854775808 else -9223372036854775808
def asdP {α : Type} (off : Int32) (τ : Nat → Int32) (C : ClA α) (n : Nat) (G : Nat → Nat → Int32) (x w : Int32) : Int32 := if isC n x then if 0 ≤ w ∧ w ≤ 1 then if G x.toNatClampNeg 7 = 1 then -5 else if w = 0 then mx 1 (G x.toNatClampNeg 2 - adF (moF off τ C x (G x.toNatClampNeg)) (G x.toNatClampNeg)) else mx 1 (G x.toNatClampNeg 2 - adF (moF off τ C x (G x.toNatClampNeg)) (G x.toNatClampNeg)) + adF (moF off τ C x (G x.toNatClampNeg)) (G x.toNatClampNeg) else -1 else -1
/-- the greatest common divisor, step by step -/
theorem gcd_stp {a b : Nat} (h : b ≠ 0) : Nat.gcd b (a % b) = Nat.gcd a b := by
  rw [Nat.gcd_comm a b, Nat.gcd_rec b a, Nat.gcd_comm]
theorem half_stp {a b k : Nat} (hb : b < 2 ^ (k + 1)) (h : a % b ≠ 0) : b % (a % b) < 2 ^ k := by
  have h0 : b ≠ 0 ∨ b = 0 := by omega
  rcases h0 with h0 | h0
  · have h1 : a % b < b := Nat.mod_lt _ (by omega)
    have h2 : b % (a % b) < a % b := Nat.mod_lt _ (by omega)
    have h3 : b % (a % b) + (a % b) ≤ b := by
      have := Nat.mod_add_div b (a % b)
      have h4 : 1 ≤ b / (a % b) := Nat.div_pos (by omega) (by omega)
      have h5 : a % b * 1 ≤ a % b * (b / (a % b)) := Nat.mul_le_mul_left _ h4
      omega
    rw [Nat.pow_succ] at hb
    omega
  · subst h0
    rw [Nat.zero_mod]
    exact Nat.two_pow_pos k
/-- judged -/
def juN (many : Int32) (it : Nat → Int64) (tr : Nat → Int32) (i : Int32) : Nat → Nat → Int32
  | 0, _ => -5
  | m + 1, c => if 0 ≤ i ∧ i.toInt + c < many.toInt then if it (i.toNatClampNeg + c) = (tr c).toInt64 then juN many it tr i m (c + 1) else nI c else 100 + nI c
theorem ju_cg {many i : Int32} {it it' : Nat → Int64} {tr tr' : Nat → Int32} : ∀ (m c : Nat), (∀ k, it k = it' k ∨ many.toInt ≤ k) → (∀ d, c ≤ d → d < c + m → tr d = tr' d) → juN many it tr i m c = juN many it' tr' i m c := by
  intro m
  induction m with
  | zero => exact fun _ _ _ => rfl
  | succ m ih =>
    intro c h1 h2
    show (if 0 ≤ i ∧ i.toInt + c < many.toInt then if it (i.toNatClampNeg + c) = (tr c).toInt64 then juN many it tr i m (c + 1) else nI c else 100 + nI c) = (if 0 ≤ i ∧ i.toInt + c < many.toInt then if it' (i.toNatClampNeg + c) = (tr' c).toInt64 then juN many it' tr' i m (c + 1) else nI c else 100 + nI c)
    by_cases q : 0 ≤ i ∧ i.toInt + c < many.toInt
    · have e : it (i.toNatClampNeg + c) = it' (i.toNatClampNeg + c) := (h1 _).resolve_right (fun z => by
        obtain ⟨j, hj, ej⟩ := nI_of (x := i) (Int32.not_lt.mpr q.1)
        have := q.2
        rw [ej, nI_toInt hj] at this
        rw [ej, nI_clamp hj] at z
        omega)
      rw [if_pos q, if_pos q, e, h2 c (Nat.le_refl _) (by omega), ih (c + 1) h1 (fun d a b => h2 d (by omega) (by omega))]
    · rw [if_neg q, if_neg q]
def judP (ok : Prop) [Decidable ok] (many : Int32) (it : Nat → Int64) (tr : Nat → Int32) (t i : Int32) (n : Nat) : Int32 := if 0 ≤ t ∧ t ≤ 5 then if ok then juN many it tr i n 0 else -12 else -1
