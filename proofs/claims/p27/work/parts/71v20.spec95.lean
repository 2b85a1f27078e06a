section S95
variable {α : Type} {off ln pr : Int32} {τ : Nat → Int32} {C : ClA α} {n k : Nat} {Y Y' G : Nat → Nat → Int32}
theorem no_y {R : Int32} (h : nobN off ln τ C n (41 - k) k (cutF n Y) = R) (hk : k ≤ 40) (q : rfN off τ C Y n = 0) : nI k = R := by
  rw [show 41 - k = 41 - (k + 1) + 1 by omega] at h
  have e : rfN off τ C (cutF n Y) n = rfN off τ C Y n := rf_cg (fun d hd => cut_at hd)
  have h : (if rfN off τ C (cutF n Y) n = 0 then nI k else nobN off ln τ C n (41 - (k + 1)) (k + 1) (saG 1 off ln τ C n (cutF n Y))) = R := h
  rw [e, if_pos q] at h
  exact h
theorem no_n {R : Int32} (h : nobN off ln τ C n (41 - k) k (cutF n Y) = R) (hk : k ≤ 40) (q : ¬ rfN off τ C Y n = 0) (hG : ∀ d, d < n → Y' d = saG 1 off ln τ C n Y d) : nobN off ln τ C n (41 - (k + 1)) (k + 1) (cutF n Y') = R := by
  rw [show 41 - k = 41 - (k + 1) + 1 by omega] at h
  have e : rfN off τ C (cutF n Y) n = rfN off τ C Y n := rf_cg (fun d hd => cut_at hd)
  have h : (if rfN off τ C (cutF n Y) n = 0 then nI k else nobN off ln τ C n (41 - (k + 1)) (k + 1) (saG 1 off ln τ C n (cutF n Y))) = R := h
  rw [e, if_neg q] at h
  rw [cut_sa hG]
  exact h
theorem no_en {R : Int32} {H : Nat → Nat → Int32} (h : nobN off ln τ C n (41 - k) k H = R) (hk : 40 < k) : (-5 : Int32) = R := by
  rw [show 41 - k = 0 by omega] at h
  exact h
theorem rf0 (hn : n ≤ 6) : nI (rfN off τ C Y n) = 0 ↔ rfN off τ C Y n = 0 := nI_eq (b := 0) (by have := rf_le (off := off) (τ := τ) (C := C) Y n; omega) (by omega)
theorem le_y {c q R : Int32} {g : Nat → Int32} (h : leaN off ln τ C c q (41 - k) k g = R) (hk : k ≤ 40) (z : moF off τ C c g ≤ q) : nI k = R := by
  rw [show 41 - k = 41 - (k + 1) + 1 by omega] at h
  have h : (if moF off τ C c g ≤ q then nI k else leaN off ln τ C c q (41 - (k + 1)) (k + 1) (vsG 1 off ln τ C c g)) = R := h
  rw [if_pos z] at h
  exact h
theorem le_n {c q R : Int32} {g g' : Nat → Int32} (h : leaN off ln τ C c q (41 - k) k g = R) (hk : k ≤ 40) (z : ¬ moF off τ C c g ≤ q) (e : g' = (alN 1 off ln τ C c 1 g).2) : leaN off ln τ C c q (41 - (k + 1)) (k + 1) g' = R := by
  rw [show 41 - k = 41 - (k + 1) + 1 by omega] at h
  have h : (if moF off τ C c g ≤ q then nI k else leaN off ln τ C c q (41 - (k + 1)) (k + 1) (vsG 1 off ln τ C c g)) = R := h
  rw [if_neg z] at h
  rw [e]
  exact h
theorem le_en {c q R : Int32} {g : Nat → Int32} (h : leaN off ln τ C c q (41 - k) k g = R) (hk : 40 < k) : (-5 : Int32) = R := by
  rw [show 41 - k = 0 by omega] at h
  exact h
theorem bdV_vs {c : Int32} {g : Nat → Int32} (h : GB 9999 g) : bdV (vsG 1 off ln τ C c g) = vsG 0 off ln τ C c g := by
  unfold vsG
  split
  · exact bdV_id h
  · exact bdV_vis h
theorem bdV_sa (h : ∀ d, d < n → GB 9999 (G d)) : ∀ d, d < n → bdV (saG 1 off ln τ C n G d) = saG 0 off ln τ C n G d := fun d hd => by
  unfold saG
  rw [if_pos hd, if_pos hd]
  exact bdV_vs (h d hd)
theorem lost_x {x v : Int32} {w : Nat} (hb : v = nI (goN Y n)) (hG : cutF n Y = stF 1 off ln τ C n w (cutF n G)) (hw : x.toNatClampNeg = w) (hx : 0 ≤ x ∧ x ≤ 40) : v = lostP off ln τ C n G x := lost_r hb (by rw [hw]; exact hG) hx
theorem meN_s {v R : Nat} {w : Nat} (h : v + meN off ln τ C n (w - k) (cutF n Y) = R) (hk : k < w) (hG : ∀ d, d < n → Y' d = saG 1 off ln τ C n Y d) {a b : Nat} (ha : asN Y n = nI a) (hb : sbN off τ C Y n = nI (a + b)) (hab : a + b < 2 ^ 31) : v + b + meN off ln τ C n (w - (k + 1)) (cutF n Y') = R := by
  have z := me_st h hk hG
  rw [ha, hb, pk_sub (by omega), nI_clamp (by omega), show a + b - a = b by omega] at z
  exact z
end S95
theorem eu_s {a b k : Nat} (h : ¬ (euN a b k).2 = 0) : euN a b (k + 1) = ((euN a b k).2, (euN a b k).1 % (euN a b k).2) := if_neg h
theorem eu_b {a b : Nat} (ha : a < 2 ^ 31) (hb : b < 2 ^ 31) : ∀ k, (euN a b k).1 < 2 ^ 31 ∧ (euN a b k).2 < 2 ^ 31 := by
  intro k
  induction k with
  | zero => exact ⟨ha, hb⟩
  | succ k ih =>
    by_cases h : (euN a b k).2 = 0
    · rw [show euN a b (k + 1) = euN a b k from if_pos h]
      exact ih
    · rw [eu_s h]
      exact ⟨ih.2, Nat.lt_trans (Nat.mod_lt _ (Nat.pos_of_ne_zero h)) ih.2⟩
theorem jx_e {i : Int32} {L c : Nat} (hL : L ≤ 60) (hc : c ≤ 6) (h0 : ¬ i < 0) : i < nI L - nI c ↔ i.toInt + c < (nI L).toInt := by
  obtain ⟨b, hb, rfl⟩ := nI_of (x := i) h0
  rw [Int32.lt_iff_toInt_lt, sub_i (by omega) (by omega), nI_toInt hb, nI_toInt (by omega)]
  omega
theorem jx_y {i m : Int32} {L c : Nat} (hL : L ≤ 60) (hc : c ≤ 6) (h0 : ¬ i < 0) (h : i < nI L - nI c) (e : m = nI L) : 0 ≤ i ∧ i.toInt + c < m.toInt := by
  rw [e]
  exact ⟨Int32.not_lt.mp h0, (jx_e hL hc h0).mp h⟩
theorem jx_n {i m : Int32} {L c : Nat} (hL : L ≤ 60) (hc : c ≤ 6) (h0 : ¬ i < 0) (h : ¬ i < nI L - nI c) (e : m = nI L) : ¬ (0 ≤ i ∧ i.toInt + c < m.toInt) := by
  rw [e]
  exact fun q => h ((jx_e hL hc h0).mpr q.2)
theorem kin_e {S : FS} {i q k : Nat} (h : fR S i 2 = some (2 + q)) (h' : fR S i 2 = some (2 + k)) : q = k := by
  have := Option.some.inj (h.symm.trans h')
  omega
/-- what a customer of the class is, among G -/
theorem of_kx {α : Type} {S : FS} {i q k : Nat} {off x w : Int32} {τ : Nat → Int32} {C : ClA α} {n : Nat} {G : Nat → Nat → Int32} (he : fR S i 2 = some (2 + q)) (hk : fR S i 2 = some (2 + k)) (hg : gX S i k = G x.toNatClampNeg) (hC : isC n x) (hw : 0 ≤ w ∧ w ≤ 11) (h0 : w = 0) : nI q = ofP off τ C n G x w := by
  rw [kin_e he hk, ← of_d hC hw (by rw [h0]; decide) (by rw [h0]; decide) (by rw [h0]; decide) (by rw [h0]; decide), ← hg, h0]
  rfl
theorem of_nx {α : Type} {g : Nat → Int32} {m : Nat} {v off x w : Int32} {τ : Nat → Int32} {C : ClA α} {n : Nat} {G : Nat → Nat → Int32} (hm : m < 8) (hv : v = g m) (hg : g = G x.toNatClampNeg) (hC : isC n x) (h0 : w = nI m) : v = ofP off τ C n G x w := by
  have hw : 0 ≤ w ∧ w ≤ 11 := by
    rw [h0]
    exact ⟨(nI_leI (a := 0) (by omega) (by omega)).mpr (Nat.zero_le _), (nI_leI (b := 11) (by omega) (by omega)).mpr (by omega)⟩
  have hne : ∀ y : Nat, 8 ≤ y → y < 100 → ¬ w = nI y := fun y a b q => by
    have := (nI_eq (a := m) (b := y) (by omega) (by omega)).mp (h0.symm.trans q)
    omega
  rw [← of_d hC hw (hne 8 (by omega) (by omega)) (hne 9 (by omega) (by omega)) (hne 10 (by omega) (by omega)) (hne 11 (by omega) (by omega)), ← hg, h0, nI_clamp (by omega), hv]
theorem out_12 {w : Int32} (h : ∀ k : Nat, k ≤ 11 → ¬ w = nI k) : ¬ (0 ≤ w ∧ w ≤ 11) := fun q => by
  obtain ⟨j, hj, rfl⟩ := nI_of (x := w) (Int32.not_lt.mpr q.1)
  exact h j ((nI_leI (b := 11) hj (by omega)).mp q.2) rfl
theorem gcd_nz {a b : Nat} (h : ¬ b = 0) : Nat.gcd a b = 0 → False := fun q => h (Nat.eq_zero_of_gcd_eq_zero_right q)
theorem gcd_lt {a b : Nat} (hb : b < 2 ^ 31) (h : ¬ b = 0) : Nat.gcd a b < 2 ^ 31 := Nat.lt_of_le_of_lt (Nat.gcd_le_right a (Nat.pos_of_ne_zero h)) hb
theorem frx_0 {a b : Nat} {v : Int64} {w : Int32} (ha : a < 2 ^ 31) (hb : b < 2 ^ 31) (h0 : ¬ b = 0) (w0 : w = 0) (hv : v = lI a) : v / lI (Nat.gcd a b) = frP a b w := by
  unfold frP
  rw [if_neg h0, if_pos w0, hv, lI_div ha (gcd_lt hb h0)]
theorem frx_1 {a b : Nat} {v : Int64} {w : Int32} (ha : a < 2 ^ 31) (hb : b < 2 ^ 31) (h0 : ¬ b = 0) (w0 : ¬ w = 0) (hv : v = lI b) : v / lI (Nat.gcd a b) = frP a b w := by
  unfold frP
  rw [if_neg h0, if_neg w0, hv, lI_div hb (gcd_lt hb h0)]
theorem rfn_c2 {α : Type} {off ln v x : Int32} {τ : Nat → Int32} {C : ClA α} {n w : Nat} {Y G : Nat → Nat → Int32} (h : v = nI (rfN off τ C Y n)) (hc : cutF n Y = stF 1 off ln τ C n w (cutF n G)) (hw : x.toNatClampNeg = w) : v = nI (rfN off τ C (stF 1 off ln τ C n x.toNatClampNeg (cutF n G)) n) := by
  rw [h, hw, ← hc]
  exact congrArg nI (rf_cg (fun d hd => (cut_at hd).symm))
theorem stn_c2 {α : Type} {off ln v x : Int32} {τ : Nat → Int32} {C : ClA α} {n w : Nat} {Y G : Nat → Nat → Int32} (h : v = nI (stN Y n)) (hc : cutF n Y = stF 1 off ln τ C n w (cutF n G)) (hw : x.toNatClampNeg = w) : v = nI (stN (stF 1 off ln τ C n x.toNatClampNeg (cutF n G)) n) := by
  rw [h, hw, ← hc]
  exact congrArg nI (st_cg (fun d hd => (cut_at hd).symm))
theorem g7_1 {g : Nat → Int32} {v : Int32} (h : g 7 = 0 ∨ g 7 = 1) (k : ¬ v = 0) (e : g 7 = v := by rfl) : (1 : Int32) = g 7 := (h.resolve_left (fun q => k (e.symm.trans q))).symm
theorem g7_0 {g : Nat → Int32} {v : Int32} (k : v = 0) (e : g 7 = v := by rfl) : (0 : Int32) = g 7 := (e.trans k).symm
theorem vit_gb {off ln x : Int32} {α : Type} {τ : Nat → Int32} {C : ClA α} {n : Nat} {G Y : Nat → Nat → Int32} (h : ∀ d, d < n → GB 9999 (G d)) (hv : Y x.toNatClampNeg = visF 1 ln (moF off τ C x (G x.toNatClampNeg)) (G x.toNatClampNeg)) (ho : ∀ d, d < n → ¬ d = x.toNatClampNeg → Y d = G d) : ∀ d, d < n → GB 10000 (Y d) := fun d hd => by
  by_cases q : d = x.toNatClampNeg
  · subst q
    rw [hv]
    exact (h _ hd).vis (by omega)
  · rw [ho d hd q]
    exact (h d hd).mono (by omega)
theorem vig_b {off ln x : Int32} {α : Type} {τ : Nat → Int32} {C : ClA α} {n : Nat} {G Y Z : Nat → Nat → Int32} (hC : isC n x) (hg : ¬ G x.toNatClampNeg 7 = 1) (h : ∀ d, d < n → GB 9999 (G d)) (hv : Y x.toNatClampNeg = visF 1 ln (moF off τ C x (G x.toNatClampNeg)) (G x.toNatClampNeg)) (ho : ∀ d, d < n → ¬ d = x.toNatClampNeg → Y d = G d) (hb : ∀ d, d < n → Z d = bdV (Y d)) : ∀ d, d < n → Z d = vitG off ln τ C n G x d := fun d hd => by
  unfold vitG
  rw [hb d hd]
  by_cases q : d = x.toNatClampNeg
  · rw [if_pos ⟨hC, q⟩]
    subst q
    rw [hv, bdV_vis (h _ hd)]
    exact (if_neg hg).symm
  · rw [if_neg (fun z => q z.2), ho d hd q]
    exact bdV_id (h d hd)
theorem tap_i {t : Int32} (h : ¬ (t < 0 ∨ 6 ≤ t)) : 0 ≤ t ∧ t ≤ 5 := by
  obtain ⟨j, hj, rfl⟩ := out_6 h
  exact ⟨(nI_leI (a := 0) (by omega) (by omega)).mpr (Nat.zero_le _), (nI_leI (b := 5) (by omega) (by omega)).mpr (by omega)⟩
theorem tap_o {t : Int32} (h : t < 0 ∨ 6 ≤ t) : ¬ (0 ≤ t ∧ t ≤ 5) := fun q => by
  rcases h with h | h
  · exact Int32.not_lt.mpr q.1 h
  · exact absurd (Int32.le_trans h q.2) (by decide)
theorem jt_e {S : FS} {i c q : Nat} {a : Int64} (h : a = (fF S i 5).toInt64) (hi : 21 + 6 * 0 + c = i) : a = (gX S (21 + 6 * 0 + c) q 3).toInt64 := by
  rw [hi]
  exact h
theorem jt_n {S : FS} {i c q : Nat} {a : Int64} (h : ¬ a = (fF S i 5).toInt64) (hi : 21 + 6 * 0 + c = i) : ¬ a = (gX S (21 + 6 * 0 + c) q 3).toInt64 := by
  rw [hi]
  exact h
theorem on_a {α : Type} {off ln pr r b x y w : Int32} {τ : Nat → Int32} {C : ClA α} {n : Nat} {G : Nat → Nat → Int32} {g' : Nat → Int32} (hc : isC n x) (hw : 0 ≤ w ∧ w ≤ 4) (h : 0 ≤ y ∧ y ≤ 40) (hal : (b, g') = alN 1 off ln τ C x y.toNatClampNeg (G x.toNatClampNeg)) (hr : (w = 0 ∧ r = b) ∨ (¬ w = 0 ∧ w = 1 ∧ r = b * pr) ∨ (¬ w = 0 ∧ ¬ w = 1 ∧ w = 2 ∧ r = g' 5 - G x.toNatClampNeg 5) ∨ (¬ w = 0 ∧ ¬ w = 1 ∧ ¬ w = 2 ∧ w = 3 ∧ r = g' 3) ∨ (¬ w = 0 ∧ ¬ w = 1 ∧ ¬ w = 2 ∧ ¬ w = 3 ∧ r = g' 4)) : r = onP off ln pr τ C n G x y w := (on_v (g := G x.toNatClampNeg) hal hr).trans (on_3 (G := G) hc hw h)
