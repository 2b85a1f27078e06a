section RC
variable {α : Type} {off ln pr : Int32} {τ : Nat → Int32} {C : ClA α} {n : Nat} {G : Nat → Nat → Int32} {x w r mo : Int32}
theorem of_o (h : ¬ isC n x ∨ ¬ (0 ≤ w ∧ w ≤ 11)) : (-1 : Int32) = ofP off τ C n G x w := by
  unfold ofP
  by_cases a : isC n x
  · rw [if_pos a, if_neg (h.resolve_left (fun z => z a))]
  · rw [if_neg a]
theorem of_i (hC : isC n x) (hw : 0 ≤ w ∧ w ≤ 11) : ofV off τ C (G x.toNatClampNeg) x w = ofP off τ C n G x w := by
  unfold ofP
  rw [if_pos hC, if_pos hw]
theorem of_8 (hC : isC n x) (hw : 0 ≤ w ∧ w ≤ 11) (h : w = 8) : moF off τ C x (G x.toNatClampNeg) = ofP off τ C n G x w := by
  rw [← of_i hC hw]
  exact (if_pos h).symm
theorem of_9 (hC : isC n x) (hw : 0 ≤ w ∧ w ≤ 11) (h : w = 9) : askF (G x.toNatClampNeg) = ofP off τ C n G x w := by
  rw [← of_i hC hw, h]
  rfl
theorem of_10 (hC : isC n x) (hw : 0 ≤ w ∧ w ≤ 11) (h : w = 10) : letF (G x.toNatClampNeg) = ofP off τ C n G x w := by
  rw [← of_i hC hw, h]
  rfl
theorem of_11y (hC : isC n x) (hw : 0 ≤ w ∧ w ≤ 11) (h : w = 11) (k : letF (G x.toNatClampNeg) < moF off τ C x (G x.toNatClampNeg)) : (1 : Int32) = ofP off τ C n G x w := by
  rw [← of_i hC hw, h]
  exact (if_pos k).symm
theorem of_11n (hC : isC n x) (hw : 0 ≤ w ∧ w ≤ 11) (h : w = 11) (k : ¬ letF (G x.toNatClampNeg) < moF off τ C x (G x.toNatClampNeg)) : (0 : Int32) = ofP off τ C n G x w := by
  rw [← of_i hC hw, h]
  exact (if_neg k).symm
theorem of_d (hC : isC n x) (hw : 0 ≤ w ∧ w ≤ 11) (h8 : ¬ w = 8) (h9 : ¬ w = 9) (h10 : ¬ w = 10) (h11 : ¬ w = 11) : G x.toNatClampNeg w.toNatClampNeg = ofP off τ C n G x w := by
  rw [← of_i hC hw]
  unfold ofV
  rw [if_neg h8, if_neg h9, if_neg h10, if_neg h11]
theorem of_lt {w : Int32} {k : Nat} (hk : k ≤ 11) (e : w = nI k) (h8 : ¬ w = 8) (h9 : ¬ w = 9) (h10 : ¬ w = 10) (h11 : ¬ w = 11) : k < 8 := by
  rcases (show k < 8 ∨ k = 8 ∨ k = 9 ∨ k = 10 ∨ k = 11 by omega) with q | rfl | rfl | rfl | rfl
  · exact q
  · exact absurd e h8
  · exact absurd e h9
  · exact absurd e h10
  · exact absurd e h11
theorem tld_0 (h : w = 0) : off = tldP off ln pr n G w := (if_pos h).symm
theorem tld_1 (h : w = 1) : pr = tldP off ln pr n G w := by
  rw [h]
  rfl
theorem tld_2 (h : w = 2) : ln = tldP off ln pr n G w := by
  rw [h]
  rfl
theorem tld_3 (h : w = 3) : nI (goN G n) = tldP off ln pr n G w := by
  rw [h]
  rfl
theorem tld_d (h0 : ¬ w = 0) (h1 : ¬ w = 1) (h2 : ¬ w = 2) (h3 : ¬ w = 3) : (-1 : Int32) = tldP off ln pr n G w := by
  unfold tldP
  rw [if_neg h0, if_neg h1, if_neg h2, if_neg h3]
theorem vit_1 (h : ¬ isC n x) : (-1 : Int32) = vitP off pr τ C n G x := (if_neg h).symm
theorem vit_2 (h : isC n x) (g : G x.toNatClampNeg 7 = 1) : (-3 : Int32) = vitP off pr τ C n G x := by
  unfold vitP
  rw [if_pos h, if_pos g]
theorem vit_3 {b : Int32} (h : isC n x) (g : ¬ G x.toNatClampNeg 7 = 1) (e : b = boF (moF off τ C x (G x.toNatClampNeg)) (G x.toNatClampNeg)) : b * pr = vitP off pr τ C n G x := by
  unfold vitP
  rw [if_pos h, if_neg g, e]
theorem vig_1 (h : ¬ isC n x ∨ G x.toNatClampNeg 7 = 1) (d : Nat) : G d = vitG off ln τ C n G x d := by
  unfold vitG
  split
  · rename_i q
    have g := h.resolve_left (fun z => z q.1)
    rw [q.2]
    exact (if_pos g).symm
  · rfl
theorem vig_3 {Y : Nat → Nat → Int32} (h : isC n x) (g : ¬ G x.toNatClampNeg 7 = 1) (e : Y x.toNatClampNeg = visF 0 ln (moF off τ C x (G x.toNatClampNeg)) (G x.toNatClampNeg)) (o : ∀ d, ¬ d = x.toNatClampNeg → Y d = G d) (d : Nat) : Y d = vitG off ln τ C n G x d := by
  unfold vitG
  by_cases q : d = x.toNatClampNeg
  · rw [if_pos ⟨h, q⟩, q, e]
    exact (if_neg g).symm
  · rw [if_neg (fun z => q z.2)]
    exact o d q
theorem sat_r {mi v : Int32} (h : v = bsF mi off ln τ C n 1 (cutF n G)) : v = sbN off τ C G n := by
  rw [h]
  show sbN off τ C (cutF n G) n + 0 = _
  rw [Int32.add_zero]
  exact sb_cg (fun d hd => cut_at hd)
theorem sat_g {mi : Int32} {Y : Nat → Nat → Int32} (h : cutF n Y = stF mi off ln τ C n 1 (cutF n G)) : ∀ d, d < n → Y d = saG mi off ln τ C n G d := fun d hd => by
  rw [← cut_at (G := Y) hd, h]
  show saG mi off ln τ C n (cutF n G) d = _
  unfold saG
  rw [if_pos hd, if_pos hd, cut_at hd]
theorem asd_1 (h : ¬ isC n x ∨ ¬ (0 ≤ w ∧ w ≤ 1)) : (-1 : Int32) = asdP off τ C n G x w := by
  unfold asdP
  by_cases a : isC n x
  · rw [if_pos a, if_neg (h.resolve_left (fun z => z a))]
  · rw [if_neg a]
theorem asd_2 (hC : isC n x) (hw : 0 ≤ w ∧ w ≤ 1) (g : G x.toNatClampNeg 7 = 1) : (-5 : Int32) = asdP off τ C n G x w := by
  unfold asdP
  rw [if_pos hC, if_pos hw, if_pos g]
theorem asd_3 {a b : Int32} (hC : isC n x) (hw : 0 ≤ w ∧ w ≤ 1) (g : ¬ G x.toNatClampNeg 7 = 1) (ha : a = mx 1 (G x.toNatClampNeg 2 - b)) (hb : b = adF (moF off τ C x (G x.toNatClampNeg)) (G x.toNatClampNeg)) : (w = 0 → a = asdP off τ C n G x w) ∧ (¬ w = 0 → a + b = asdP off τ C n G x w) := by
  unfold asdP
  rw [if_pos hC, if_pos hw, if_neg g, ← hb, ← ha]
  exact ⟨fun q => (if_pos q).symm, fun q => (if_neg q).symm⟩
theorem abs_n {a b : Nat} (ha : a < 100000) (hb : b < 100000) : (if nI a - nI b < 0 then -(nI a - nI b) else nI a - nI b) = nI ((a - b) + (b - a)) := by
  have e := sub_i ha hb
  by_cases q : b ≤ a
  · rw [if_neg (fun z => by
      have := Int32.lt_iff_toInt_lt.mp z
      rw [e, show (0 : Int32).toInt = 0 from rfl] at this
      omega), pk_sub q]
    exact congrArg nI (by omega)
  · rw [if_pos (Int32.lt_iff_toInt_lt.mpr (by rw [e, show (0 : Int32).toInt = 0 from rfl]; omega))]
    rw [show -(nI a - nI b) = nI b - nI a from Int32.neg_sub, pk_sub (by omega)]
    exact congrArg nI (by omega)
/-- the first a at which a and m come nearest to w -/
theorem asd_s {k m w : Nat} {v4 p1 p2 : Int32} (hk : 2 ≤ k ∧ k ≤ 99) (hm : m ≤ 1040) (hw : w ≤ 99) (h4 : v4 = nI (min (k - 1) (max 1 (w - m)))) (e1 : p1 = if nI k + nI m - nI w < 0 then -(nI k + nI m - nI w) else nI k + nI m - nI w) (e2 : p2 = if v4 + nI m - nI w < 0 then -(v4 + nI m - nI w) else v4 + nI m - nI w) : (p1 < p2 → nI k = nI (min (k + 1 - 1) (max 1 (w - m)))) ∧ (¬ p1 < p2 → v4 = nI (min (k + 1 - 1) (max 1 (w - m)))) := by
  rw [nI_add, abs_n (by omega) (by omega)] at e1
  rw [h4, nI_add, abs_n (by omega) (by omega)] at e2
  rw [e1, e2, nI_ltI (by omega) (by omega), h4]
  exact ⟨fun q => congrArg nI (by omega), fun q => congrArg nI (by omega)⟩
theorem asd_e {m w : Nat} (hm : m ≤ 1040) (hw : w ≤ 99) : nI (min (100 - 1) (max 1 (w - m))) = mx 1 (nI w - nI m) := by
  have e := sub_i (a := w) (b := m) (by omega) (by omega)
  unfold mx
  by_cases q : 1 ≤ w - m
  · rw [if_neg (Int32.not_lt.mpr (Int32.le_iff_toInt_le.mpr (by rw [e, show (1 : Int32).toInt = 1 from rfl]; omega))), pk_sub (by omega)]
    exact congrArg nI (by omega)
  · rw [if_pos (Int32.lt_iff_toInt_lt.mpr (by rw [e, show (1 : Int32).toInt = 1 from rfl]; omega))]
    exact congrArg nI (show min (100 - 1) (max 1 (w - m)) = 1 by omega)
theorem gcd_e {v2 v3 : Int32} {a b x y : Nat} (h2 : v2 = nI x) (h3 : v3 = nI y) (hy : y < 2 ^ 31) (hg : Nat.gcd x y = Nat.gcd a b) (z : v3 = 0) : v2 = nI (Nat.gcd a b) := by
  have e : y = 0 := (nI_eq (b := 0) hy (by omega)).mp (h3.symm.trans z)
  rw [e, Nat.gcd_zero_right] at hg
  rw [h2, hg]
theorem fr_0 {a b : Nat} {v : Int32} (ha : a < 2 ^ 31) (hb : b < 2 ^ 31) (h0 : b ≠ 0) (w0 : w = 0) (hv : v = nI a) : (v / nI (Nat.gcd a b)).toInt64 = frP a b w := by
  unfold frP
  have hg := Nat.gcd_pos_of_pos_right a (Nat.pos_of_ne_zero h0)
  have hl := Nat.gcd_le_right a (Nat.pos_of_ne_zero h0)
  rw [if_neg h0, if_pos w0, hv, pk_div (by omega) (by omega) (by omega)]
  rfl
theorem fr_1 {a b : Nat} {v : Int32} (ha : a < 2 ^ 31) (hb : b < 2 ^ 31) (h0 : b ≠ 0) (w0 : ¬ w = 0) (hv : v = nI b) : (v / nI (Nat.gcd a b)).toInt64 = frP a b w := by
  unfold frP
  have hg := Nat.gcd_pos_of_pos_right a (Nat.pos_of_ne_zero h0)
  have hl := Nat.gcd_le_right a (Nat.pos_of_ne_zero h0)
  rw [if_neg h0, if_neg w0, hv, pk_div (by omega) (by omega) (by omega)]
  rfl
theorem odd_1 (h : ¬ (0 ≤ x ∧ x ≤ 40) ∨ ¬ (0 ≤ w ∧ w ≤ 1)) : (-9223372036854775808 : Int64) = oddP off ln τ C n G x w := by
  unfold oddP
  by_cases a : 0 ≤ x ∧ x ≤ 40
  · rw [if_pos a, if_neg (h.resolve_left (fun z => z a))]
  · rw [if_neg a]
theorem odd_2 {a b : Nat} {r : Int64} (hx : 0 ≤ x ∧ x ≤ 40) (hw : 0 ≤ w ∧ w ≤ 1) (ha : a = rfN off τ C (stF 1 off ln τ C n x.toNatClampNeg (cutF n G)) n) (hb : b = stN (stF 1 off ln τ C n x.toNatClampNeg (cutF n G)) n) (hr : r = frP a b w) : r = oddP off ln τ C n G x w := by
  unfold oddP
  rw [if_pos hx, if_pos hw, ← ha, ← hb]
  exact hr
theorem mea_1 (h : ¬ (1 ≤ x ∧ x ≤ 40) ∨ ¬ (0 ≤ w ∧ w ≤ 1)) : (-9223372036854775808 : Int64) = meaP off ln τ C n G x w := by
  unfold meaP
  by_cases a : 1 ≤ x ∧ x ≤ 40
  · rw [if_pos a, if_neg (h.resolve_left (fun z => z a))]
  · rw [if_neg a]
theorem mea_2 {a b : Nat} {r : Int64} (hx : 1 ≤ x ∧ x ≤ 40) (hw : 0 ≤ w ∧ w ≤ 1) (ha : a = meN off ln τ C n x.toNatClampNeg (cutF n G)) (hb : b = vsF 1 off ln τ C n x.toNatClampNeg (cutF n G)) (hr : r = frP a b w) : r = meaP off ln τ C n G x w := by
  unfold meaP
  rw [if_pos hx, if_pos hw, ← ha, ← hb]
  exact hr
theorem fr_z {a b : Nat} (h : b = 0) : (-9223372036854775808 : Int64) = frP a b w := (if_pos h).symm
theorem rf_le {off : Int32} {τ : Nat → Int32} {C : ClA α} (G : Nat → Nat → Int32) : ∀ k, rfN off τ C G k ≤ k := by
  intro k
  induction k with
  | zero => exact Nat.le_refl _
  | succ k ih =>
    show rfN off τ C G k + (if ¬ G k 7 = 1 ∧ letF (G k) < moF off τ C (nI k) (G k) then 1 else 0) ≤ k + 1
    split <;> omega
theorem vn_le {mi : Int32} : ∀ (w : Nat) (G : Nat → Nat → Int32), vsF mi off ln τ C n w G ≤ n * w := by
  intro w
  induction w with
  | zero => exact fun _ => Nat.zero_le _
  | succ w ih =>
    intro G
    show stN G n + vsF mi off ln τ C n w (saG mi off ln τ C n G) ≤ n * (w + 1)
    have := st_le G n
    have := ih (saG mi off ln τ C n G)
    rw [Nat.mul_succ]
    omega
theorem sty {k : Nat} {v : Int32} (h : v = nI (stN G k)) (hg : ¬ G k 7 = 1) : v + 1 = nI (stN G (k + 1)) := by
  show _ = nI (stN G k + (if G k 7 = 1 then 0 else 1))
  rw [if_neg hg, h, nI_1]
theorem stn {k : Nat} {v : Int32} (h : v = nI (stN G k)) (hg : G k 7 = 1) : v + 0 = nI (stN G (k + 1)) := by
  show _ = nI (stN G k + (if G k 7 = 1 then 0 else 1))
  rw [if_pos hg, h, Int32.add_zero]
  rfl
theorem rfn0 {k : Nat} {v : Int32} (h : v = nI (rfN off τ C G k)) (hg : G k 7 = 1 ∨ ¬ letF (G k) < moF off τ C (nI k) (G k)) : v + 0 = nI (rfN off τ C G (k + 1)) := by
  rw [Int32.add_zero]
  exact rf_n h hg
end RC
theorem cut_gc {B n : Nat} {G : Nat → Nat → Int32} (h : ∀ d, d < n → GC B (G d)) : ∀ d, d < n → GC B (cutF n G d) := fun d hd => by
  rw [cut_at hd]
  exact h d hd
theorem gc_7 {B n : Nat} {G : Nat → Nat → Int32} (h : ∀ d, d < n → GC B (G d)) : ∀ d, d < n → G d 7 = 0 ∨ G d 7 = 1 := fun d hd => (h d hd).1.2.2.2
section JU
variable {many i : Int32} {it : Nat → Int64} {tr : Nat → Int32} {n k : Nat} {R : Int32}
theorem ju_n (h : juN many it tr i (n - k) k = R) (hk : k < n) (q : ¬ (0 ≤ i ∧ i.toInt + k < many.toInt)) : 100 + nI k = R := by
  rw [show n - k = n - (k + 1) + 1 by omega] at h
  rw [← h]
  exact (if_neg q).symm
theorem ju_y (h : juN many it tr i (n - k) k = R) (hk : k < n) (q : 0 ≤ i ∧ i.toInt + k < many.toInt) : (it (i.toNatClampNeg + k) = (tr k).toInt64 → juN many it tr i (n - (k + 1)) (k + 1) = R) ∧ (¬ it (i.toNatClampNeg + k) = (tr k).toInt64 → nI k = R) := by
  rw [show n - k = n - (k + 1) + 1 by omega] at h
  rw [← h]
  have e : juN many it tr i (n - (k + 1) + 1) k = if it (i.toNatClampNeg + k) = (tr k).toInt64 then juN many it tr i (n - (k + 1)) (k + 1) else nI k := if_pos q
  rw [e]
  exact ⟨fun z => (if_pos z).symm, fun z => (if_neg z).symm⟩
theorem ju_e (h : juN many it tr i (n - k) k = R) (hk : n ≤ k) : (-5 : Int32) = R := by
  rw [show n - k = 0 by omega] at h
  exact h
end JU
section JD
variable {many : Int32} {it : Nat → Int64} {tr : Nat → Int32} {t i : Int32} {n : Nat}
theorem jud_1 {ok : Prop} [Decidable ok] (h : ¬ (0 ≤ t ∧ t ≤ 5)) : (-1 : Int32) = judP ok many it tr t i n := (if_neg h).symm
theorem jud_2 {ok : Prop} [Decidable ok] (h : 0 ≤ t ∧ t ≤ 5) (k : ¬ ok) : (-12 : Int32) = judP ok many it tr t i n := by
  unfold judP
  rw [if_pos h, if_neg k]
theorem jud_3 {ok : Prop} [Decidable ok] {r : Int32} (h : 0 ≤ t ∧ t ≤ 5) (k : ok) (e : r = juN many it tr i n 0) : r = judP ok many it tr t i n := by
  unfold judP
  rw [if_pos h, if_pos k]
  exact e
/-- the reference: the row's length, if there is one -/
def mnR (a b : Int32) : Int32 := if a = 0 then 0 else b
theorem mn_h {a b i : Int32} {k : Nat} (h : a = 0) : ¬ (0 ≤ i ∧ i.toInt + k < (mnR a b).toInt) := fun q => by
  unfold mnR at q
  rw [if_pos h, show (0 : Int32).toInt = 0 from rfl] at q
  have := Int32.le_iff_toInt_le.mp q.1
  rw [show (0 : Int32).toInt = 0 from rfl] at this
  omega
theorem mn_y {a b i : Int32} {k : Nat} (h : ¬ a = 0) (hk : k < 2 ^ 31) (h0 : ¬ i < 0) (h1 : i.toInt + (nI k).toInt < b.toInt) : 0 ≤ i ∧ i.toInt + k < (mnR a b).toInt := by
  unfold mnR
  rw [nI_toInt hk] at h1
  rw [if_neg h]
  exact ⟨Int32.not_lt.mp h0, h1⟩
theorem mn_n {a b i : Int32} {k : Nat} (h : ¬ a = 0) (hk : k < 2 ^ 31) (h1 : ¬ i.toInt + (nI k).toInt < b.toInt) : ¬ (0 ≤ i ∧ i.toInt + k < (mnR a b).toInt) := fun q => by
  unfold mnR at q
  rw [if_neg h] at q
  rw [nI_toInt hk] at h1
  exact h1 q.2
theorem mn_i {m i : Int32} {k : Nat} (h0 : i < 0) : ¬ (0 ≤ i ∧ i.toInt + k < m.toInt) := fun q => absurd q.1 (Int32.not_le.mpr h0)
end JD
