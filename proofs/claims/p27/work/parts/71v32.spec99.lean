/-- what EQ says of the first shop, in pieces -/
def CUS (SX SR : FS) (n pz z : Nat) (K : Nat → Nat) (τ : Nat → Int32) (C : Cls) : Prop := n ≤ 6 ∧ fF SX (9 + 0) 3 = nI n ∧ CuF SX 0 n pz τ C K ∧ N99 C ∧ (∀ c, c < n → gX SX (21 + 6 * 0 + c) (K c) = gR SR c) ∧ (∀ c, c < n → GC 9999 (gR SR c)) ∧ HOL SR (vec SR 2) z τ C
theorem eq_cu {SX SR : FS} (h : EQ SX SR) : ∃ n pz z K τ C, CUS SX SR n pz z K τ C := by
  obtain ⟨⟨⟨n, pz, z, K, τ, C, hn, h1, h2, h3, h4, h5, h6⟩, -⟩, -⟩ := h
  have hg : ∀ c, c < n → gX SX (21 + 6 * 0 + c) (K c) = gR SR c := fun c hc => gx_gr (by omega) (h4 c hc)
  exact ⟨n, pz, z, K, τ, C, hn, h1, h2, h3, hg, fun c hc => by rw [← hg c hc]; exact h5 c hc, h6⟩
theorem gx_f {S : FS} {i q m : Nat} (h1 : 1 ≤ m) (h8 : m < 8) : gX S i q m = fF S i (m + 2) := by
  unfold gX
  rw [if_neg (by omega), if_pos h8]
theorem gx_a {S : FS} {i q m : Nat} (h : m < 4) : gX S i q (8 + m) = fA S (i + 18) m := by
  unfold gX
  rw [if_neg (by omega), if_neg (by omega), if_pos (by omega), Nat.add_sub_cancel_left]
theorem gx_setF {S : FS} {i q m : Nat} {v : Int32} (h1 : 1 ≤ m) (h8 : m < 8) : gX (setF S i (m + 2) v) i q = upd (gX S i q) m v := by
  funext k
  by_cases e : k = m
  · subst e
    rw [pk_us, gx_f h1 h8, fF_setF, if_pos ⟨rfl, rfl⟩]
  · rw [pk_un e]
    have e2 : fF (setF S i (m + 2) v) i (k + 2) = fF S i (k + 2) := by rw [fF_setF, if_neg (by omega)]
    unfold gX
    rw [e2, fA_setF]
theorem gx_row {S : FS} {i q m : Nat} {v : Int32} (h : m < 4) : gX (setA S (i + 18) (upd (fA S (i + 18)) m v)) i q = upd (gX S i q) (8 + m) v := by
  funext k
  by_cases e : k = 8 + m
  · subst e
    rw [pk_us, gx_a h, fA_setA, if_pos rfl, pk_us]
  · rw [pk_un e]
    unfold gX
    by_cases h12 : k < 8
    · rw [if_pos h12, if_pos h12, fF_setA]
    · rw [if_neg h12, if_neg h12, fA_setA, if_pos rfl, pk_un (by omega)]
theorem gr_setA {S : FS} {j m c : Nat} {v : Int32} (hm : m < 12) : gR (setA (setF S 0 8 0) 1 (upd (fA S 1) (12 * j + m) v)) c = if c = j then upd (gR S j) m v else gR S c := by
  by_cases e : c = j
  · subst e
    rw [if_pos rfl]
    funext k
    by_cases a : k = m
    · subst a
      rw [pk_us, gR_k hm, fA_setA, if_pos rfl, pk_us]
    · rw [pk_un a]
      unfold gR
      by_cases k12 : k < 12
      · rw [if_pos k12, if_pos k12, fA_setA, if_pos rfl, pk_un (by omega)]
      · rw [if_neg k12, if_neg k12]
  · rw [if_neg e]
    funext k
    unfold gR
    by_cases k12 : k < 12
    · rw [if_pos k12, if_pos k12, fA_setA, if_pos rfl, pk_un (by omega)]
    · rw [if_neg k12, if_neg k12]
theorem in_b {a b : Nat} {A B v : Int32} (hA : A = nI a) (hB : B = nI b) (h : A ≤ v ∧ v ≤ B) (ha : a < 1000) (hb : b < 1000) : ∃ t : Nat, a ≤ t ∧ t ≤ b ∧ v = nI t := by
  subst hA
  subst hB
  have h0 : ¬ v < 0 := fun q => absurd (Int32.le_trans h.1 (Int32.le_of_lt q)) (fun z => by
    have y := (Int32.le_iff_toInt_le.mp h.1)
    have x := (Int32.lt_iff_toInt_lt.mp q)
    have w : (0 : Int32).toInt = 0 := by decide
    rw [nI_toInt (by omega)] at y
    omega)
  obtain ⟨t, ht, rfl⟩ := nI_of (x := v) h0
  exact ⟨t, (nI_leI (by omega) ht).mp h.1, (nI_leI ht (by omega)).mp h.2, rfl⟩
theorem gc_set {B : Nat} {g : Nat → Int32} {w v : Int32} (h : GC B g) (k : okS w v) : GC B (upd g (slw w) v) := by
  obtain ⟨⟨a, b, c, d⟩, e, f, p, q, x⟩ := h
  unfold slw
  by_cases w0 : w = 0
  · rw [if_pos w0]
    obtain ⟨t, t1, t2, ev⟩ := in_b (a := 10) (b := 99) rfl rfl ((ok0 w0).mp k) (by omega) (by omega)
    exact ⟨⟨a, b, c, d⟩, e, f, ⟨t, t1, t2, ev⟩, q, fun k hk => by rw [pk_un (by omega)]; exact x k hk⟩
  · rw [if_neg w0]
    by_cases w1 : w = 1
    · rw [if_pos w1]
      obtain ⟨t, t1, t2, ev⟩ := in_b (a := 0) (b := 20) rfl rfl ((ok1 w0 w1).mp k) (by omega) (by omega)
      exact ⟨⟨⟨t, t2, ev⟩, b, c, d⟩, e, f, p, q, fun k hk => by rw [pk_un (by omega)]; exact x k hk⟩
    · rw [if_neg w1]
      by_cases w2 : w = 2
      · rw [if_pos w2]
        obtain ⟨t, t1, t2, ev⟩ := in_b (a := 0) (b := 99) rfl rfl ((ok2 w0 w1 w2).mp k) (by omega) (by omega)
        exact ⟨⟨a, b, c, d⟩, e, f, p, ⟨t, t2, ev⟩, fun k hk => by rw [pk_un (by omega)]; exact x k hk⟩
      · rw [if_neg w2]
        obtain ⟨t, t1, t2, ev⟩ := in_b (a := 0) (b := 1) rfl rfl ((ok3 w0 w1 w2).mp k) (by omega) (by omega)
        refine ⟨⟨a, b, c, ?_⟩, e, f, p, q, fun k hk => by rw [pk_un (by omega)]; exact x k hk⟩
        rcases (show t = 0 ∨ t = 1 by omega) with rfl | rfl
        · exact Or.inl ev
        · exact Or.inr ev
theorem gc_row {B m : Nat} {g : Nat → Int32} {v : Int32} (h : GC B g) (hm : m < 4) (k : 0 ≤ v ∧ v ≤ 9) : GC B (upd g (8 + m) v) := by
  obtain ⟨⟨a, b, c, d⟩, e, f, p, q, x⟩ := h
  obtain ⟨t, t1, t2, ev⟩ := in_b (a := 0) (b := 9) rfl rfl k (by omega) (by omega)
  refine ⟨⟨by rw [pk_un (by omega)]; exact a, by rw [pk_un (by omega)]; exact b, by rw [pk_un (by omega)]; exact c, by rw [pk_un (by omega)]; exact d⟩, by rw [pk_un (by omega)]; exact e, by rw [pk_un (by omega)]; exact f, by rw [pk_un (by omega)]; exact p, by rw [pk_un (by omega)]; exact q, fun y hy => ?_⟩
  by_cases z : y = m
  · subst z
    rw [pk_us]
    exact ⟨t, t2, ev⟩
  · rw [pk_un (by omega)]
    exact x y hy
theorem eq_set {n pz z : Nat} {K : Nat → Nat} {τ : Nat → Int32} {C : Cls} {x w v r r' : Int32} {SX SX' SR SR' : FS} (h : EQ SX SR) (hU : CUS SX SR n pz z K τ C) (h1 : fF SR 0 1 = nI n) (hC : SetP n x w v r SX SX') (hF : Fr (fun j k => 21 ≤ j ∧ j < 27 ∧ 4 ≤ k ∧ k ≤ 9) SX SX')
    (e1 : r' = (if (0 ≤ x ∧ x ≤ fF SR 0 1 - 1) then if 0 ≤ w ∧ w ≤ 3 then if (if w = 0 then 10 ≤ v ∧ v ≤ 99 else if w = 1 then 0 ≤ v ∧ v ≤ 20 else if w = 2 then 0 ≤ v ∧ v ≤ 99 else 0 ≤ v ∧ v ≤ 1) then fA SR 1 (12 * x.toNatClampNeg + slw w) else -2 else -1 else -1))
    (e2 : SR' = (if (0 ≤ x ∧ x ≤ fF SR 0 1 - 1) then if 0 ≤ w ∧ w ≤ 3 then if (if w = 0 then 10 ≤ v ∧ v ≤ 99 else if w = 1 then 0 ≤ v ∧ v ≤ 20 else if w = 2 then 0 ≤ v ∧ v ≤ 99 else 0 ≤ v ∧ v ≤ 1) then setA (setF SR 0 8 0) 1 (upd (fA SR 1) (12 * x.toNatClampNeg + slw w) v) else (setF SR 0 8 0) else (setF SR 0 8 0) else (setF SR 0 8 0))) : r = r' ∧ EQ SX' SR' := by
  obtain ⟨hn6, hn, hcf, h99, hg, hgc, hH⟩ := hU
  rw [h1] at e1 e2
  rcases hC with ⟨a, b, c⟩ | ⟨⟨j, hj, ej⟩, a2, a3, b, c⟩ | ⟨j, hj, ej, a2, a3, b, c⟩
  · by_cases hc : 0 ≤ x ∧ x ≤ nI n - 1
    · rw [if_pos hc, if_neg (not_an2 (a.resolve_left (fun q => outC hn6 q hc)))] at e1 e2
      exact ⟨b.trans e1.symm, eq_same h c e2⟩
    · rw [if_neg hc] at e1 e2
      exact ⟨b.trans e1.symm, eq_same h c e2⟩
  · have a4 : ¬ (if w = 0 then 10 ≤ v ∧ v ≤ 99 else if w = 1 then 0 ≤ v ∧ v ≤ 20 else if w = 2 then 0 ≤ v ∧ v ≤ 99 else 0 ≤ v ∧ v ≤ 1) := a3
    rw [if_pos (inC hn6 hj ej), if_pos (not_or2.mp a2), if_neg a4] at e1 e2
    exact ⟨b.trans e1.symm, eq_same h c e2⟩
  · have a4 : (if w = 0 then 10 ≤ v ∧ v ≤ 99 else if w = 1 then 0 ≤ v ∧ v ≤ 20 else if w = 2 then 0 ≤ v ∧ v ≤ 99 else 0 ≤ v ∧ v ≤ 1) := a3
    have ec : x.toNatClampNeg = j := by rw [ej]; exact nI_clamp (by omega)
    rw [if_pos (inC hn6 hj ej), if_pos (not_or2.mp a2), if_pos a4, ec] at e1 e2
    have hs : 2 ≤ slw w ∧ slw w < 8 := by rcases slw_c w with q | q | q | q <;> rw [q] <;> omega
    have er : r = r' := by
      rw [b, e1, ← gx_f (q := K j) (by omega) hs.2, hg j hj, gR_k (by omega)]
    refine ⟨er, eq_cus h hn6 hn hcf h99 hH hF (fun c hc => by omega) (by omega) (by omega) (by omega) (by omega) ⟨fun c k a b d q => by omega, fun c a q => by omega, fun q => by omega, fun q => by omega, fun q => by omega, fun q => by omega⟩ (by omega) (fun j k a q => by omega) (fun d hd => ?_) (fun d hd => ?_) (by rw [e2]; exact re_a (fun _ => trivial) (fun q => absurd q (by omega)) (by omega)) (by rw [e2]; rfl)⟩
    · rw [e2, gr_setA (by omega)]
      by_cases q : d = j
      · subst q
        rw [if_pos rfl, c, gx_setF (by omega) hs.2, hg d hd]
      · have hF1 : Fr (fun i k => i = 21 + 6 * 0 + j ∧ k = slw w + 2) SX SX' := by rw [c]; exact Fr.sF Fr.rf ⟨rfl, rfl⟩
        rw [if_neg q, gx_same hF1 (by omega) (fun k a b z => by omega) (fun z => by omega), hg d hd]
    · rw [e2, gr_setA (by omega)]
      by_cases q : d = j
      · subst q
        rw [if_pos rfl]
        exact gc_set (hgc d hd) a3
      · rw [if_neg q]
        exact hgc d hd
theorem eq_row {n pz z : Nat} {K : Nat → Nat} {τ : Nat → Int32} {C : Cls} {x w v r : Int32} {SX SX' SR SR' : FS} (h : EQ SX SR) (hU : CUS SX SR n pz z K τ C) (h1 : fF SR 0 1 = nI n) (hC : RowP n x w v r SX SX') (hF : Fr (fun j k => 39 ≤ j ∧ j < 45 ∧ k = 99) SX SX')
    (e2 : SR' = (if (0 ≤ x ∧ x ≤ fF SR 0 1 - 1) then if 0 ≤ w ∧ w ≤ 3 then if 0 ≤ v ∧ v ≤ 9 then if fA SR 1 (12 * x.toNatClampNeg + 0) = 6 then setA (setF SR 0 8 0) 1 (upd (fA SR 1) (12 * x.toNatClampNeg + (8 + w.toNatClampNeg)) v) else (setF SR 0 8 0) else (setF SR 0 8 0) else (setF SR 0 8 0) else (setF SR 0 8 0))) : EQ SX' SR' := by
  obtain ⟨hn6, hn, hcf, h99, hg, hgc, hH⟩ := hU
  rw [h1] at e2
  rcases hC with ⟨a, b, c⟩ | ⟨a, b, c⟩ | ⟨⟨j, hj, ej⟩, a2, a3, b, c⟩ | ⟨j, q, wz, hj, ej, hq, hq7, hw3, ew, a2, a3, hS⟩
  · rw [if_neg (outC hn6 a)] at e2
    exact eq_same h c e2
  · by_cases hc : 0 ≤ x ∧ x ≤ nI n - 1
    · rw [if_pos hc, if_neg (not_an2 a)] at e2
      exact eq_same h c e2
    · rw [if_neg hc] at e2
      exact eq_same h c e2
  · rw [if_pos (inC hn6 hj ej), if_pos (not_or2.mp a2), if_neg (not_an2 a3)] at e2
    exact eq_same h c e2
  · have ec : x.toNatClampNeg = j := by rw [ej]; exact nI_clamp (by omega)
    have ewc : w.toNatClampNeg = wz := by rw [ew]; exact nI_clamp (by omega)
    have eq : q = K j := kin_e hq (hcf.1 j hj).1
    have e0 : fA SR 1 (12 * j + 0) = nI q := by
      rw [← gR_k (S := SR) (j := j) (k := 0) (by omega), ← hg j hj, eq]
      rfl
    rw [if_pos (inC hn6 hj ej), if_pos (not_or2.mp a2), if_pos (not_or2.mp a3), ec, ewc, e0] at e2
    rcases hS with ⟨a, b, c⟩ | ⟨a, b, c⟩
    · rw [if_neg (show ¬ nI q = 6 from fun y => a ((isk6 hq7).mpr ((nI_eq (a := q) (b := 6) (by omega) (by omega)).mp y)))] at e2
      exact eq_same h c e2
    · rw [if_pos (by rw [(isk6 hq7).mp a]; rfl)] at e2
      refine eq_cus h hn6 hn hcf h99 hH hF (fun c hc => by omega) (by omega) (by omega) (by omega) (by omega) ⟨fun c k a b d q => by omega, fun c a q => by omega, fun q => by omega, fun q => by omega, fun q => by omega, fun q => by omega⟩ (by omega) (fun j k a q => by omega) (fun d hd => ?_) (fun d hd => ?_) (by rw [e2]; exact re_a (fun _ => trivial) (fun q => absurd q (by omega)) (by omega)) (by rw [e2]; rfl)
      · rw [e2, gr_setA (by omega)]
        by_cases y : d = j
        · subst y
          rw [if_pos rfl, c, gx_row (by omega), hg d hd]
        · have hF1 : Fr (fun i k => i = 21 + 6 * 0 + j + 18 ∧ k = 99) SX SX' := by rw [c]; exact Fr.sA Fr.rf ⟨rfl, rfl⟩
          rw [if_neg y, gx_same hF1 (by omega) (fun k a b z => by omega) (fun z => by omega), hg d hd]
      · rw [e2, gr_setA (by omega)]
        by_cases y : d = j
        · subst y
          rw [if_pos rfl]
          exact gc_row (hgc d hd) (by omega) (not_or2.mp a3)
        · rw [if_neg y]
          exact hgc d hd
theorem eq_cust {n pz z : Nat} {K : Nat → Nat} {τ : Nat → Int32} {C : Cls} {kd v w r : Int32} {SX SX' SR SR' : FS} (h : EQ SX SR) (hU : CUS SX SR n pz z K τ C) (h1 : fF SR 0 1 = nI n) (hC : CuP n kd v w r SX SX') (hF : Fr (fun j k => (j = 9 ∧ k = 3) ∨ (j = 21 + n ∧ 2 ≤ k ∧ k ≤ 9) ∨ (j = 39 + n ∧ k = 99)) SX SX') {n' : Nat} (hn' : fF SR 0 1 = nI n') (hn6' : n' ≤ 6)
    (e2 : SR' = (if 0 ≤ kd ∧ kd ≤ 6 then if 0 ≤ v ∧ v ≤ 9 then if 10 ≤ w ∧ w ≤ 99 then if fF SR 0 1 = 6 then (setF SR 0 8 0) else setF (setA (setF SR 0 8 0) 1 (cs (fA SR 1) n' kd v w)) 0 1 (nI (n' + 1)) else (setF SR 0 8 0) else (setF SR 0 8 0) else (setF SR 0 8 0))) : EQ SX' SR' := by
  obtain ⟨hn6, hn, hcf, h99, hg, hgc, hH⟩ := hU
  have en : n' = n := (nI_eq (by omega) (by omega)).mp (hn'.symm.trans h1)
  subst en
  rcases hC with ⟨a, b, c⟩ | ⟨a, a2, b, c⟩ | ⟨a, a2, a3, a4, b, c⟩ | ⟨a, a2, a3, a4, b, c, kz, hkz, ekz, g1, g2, g4, g5, g6, g3⟩
  · rw [if_neg (not_an2 a)] at e2
    exact eq_same h c e2
  · rw [if_pos (not_or2.mp a)] at e2
    by_cases q : v < 0 ∨ 9 < v
    · rw [if_neg (not_an2 q)] at e2
      exact eq_same h c e2
    · rw [if_pos (not_or2.mp q), if_neg (not_an2 (a2.resolve_left q))] at e2
      exact eq_same h c e2
  · rw [if_pos (not_or2.mp a), if_pos (not_or2.mp a2), if_pos (not_or2.mp a3), if_pos (by rw [h1, a4]; rfl)] at e2
    exact eq_same h c e2
  · have q : ¬ fF SR 0 1 = 6 := fun z => by
      rw [h1] at z
      have := (nI_eq (a := n') (b := 6) (by omega) (by omega)).mp z
      omega
    rw [if_pos (not_or2.mp a), if_pos (not_or2.mp a2), if_pos (not_or2.mp a3), if_neg q] at e2
    have r0 : RE True False SR SR' := by rw [e2]; exact re_af (fun _ => trivial) (fun q => absurd q (by omega)) (by omega) (by omega) (by omega)
    have r5 : fA SR' 5 = fA SR 5 := by rw [e2]; rfl
    have r1 : fA SR' 1 = cs (fA SR 1) n' kd v w := by rw [e2]; rfl
    have hgn : gX SX' (21 + 6 * 0 + n') kz = gR SR' n' := by
      funext k
      by_cases k12 : k < 12
      · rw [gR_k k12, r1]
        unfold cs
        by_cases k0 : k = 0
        · subst k0
          rw [pk_un (by omega), pk_un (by omega), pk_un (by omega), pk_us]
          exact ekz.symm
        · by_cases k1 : k = 1
          · subst k1
            rw [pk_un (by omega), pk_un (by omega), pk_us, gx_f (by omega) (by omega)]
            exact g2
          · by_cases k2 : k = 2
            · subst k2
              rw [pk_un (by omega), pk_us, gx_f (by omega) (by omega)]
              exact g4
            · by_cases k3 : k = 3
              · subst k3
                rw [pk_us, gx_f (by omega) (by omega)]
                exact g5
              · rw [pk_un (by omega), pk_un (by omega), pk_un (by omega), pk_un (by omega)]
                unfold zs
                rw [if_pos (by omega)]
                by_cases k8 : k < 8
                · rw [gx_f (by omega) k8]
                  exact g6 _ (by omega) (by omega)
                · obtain ⟨m, rfl⟩ : ∃ m, k = 8 + m := ⟨k - 8, by omega⟩
                  rw [gx_a (by omega)]
                  exact g3 m (by omega)
      · unfold gX gR
        rw [if_neg (by omega), if_neg (by omega), if_neg k12, if_neg k12]
    have hgo : ∀ d, d < n' → gR SR' d = gR SR d := fun d hd => by
      funext k
      unfold gR
      by_cases k12 : k < 12
      · rw [if_pos k12, if_pos k12, r1]
        unfold cs
        rw [pk_un (by omega), pk_un (by omega), pk_un (by omega), pk_un (by omega)]
        unfold zs
        rw [if_neg (by omega)]
      · rw [if_neg k12, if_neg k12]
    have hgx : ∀ d, d < n' + 1 → gX SX' (21 + 6 * 0 + d) (if d = n' then kz else K d) = gR SR' d := fun d hd => by
      by_cases y : d = n'
      · subst y
        rw [if_pos rfl]
        exact hgn
      · rw [if_neg y, hgo d (by omega), gx_same hF (by omega) (fun k a b z => by omega) (fun z => by omega)]
        exact hg d (by omega)
    have hgc' : ∀ d, d < n' + 1 → GC 9999 (gR SR' d) := fun d hd => by
      by_cases y : d = n'
      · subst y
        rw [← hgn]
        obtain ⟨t1, -, t2, et⟩ := in_b (a := 0) (b := 9) rfl rfl (not_or2.mp a2) (by omega) (by omega)
        obtain ⟨u1, u2, u3, eu⟩ := in_b (a := 10) (b := 99) rfl rfl (not_or2.mp a3) (by omega) (by omega)
        have z6 : ∀ m, 4 ≤ m → m < 8 → gX SX' (21 + 6 * 0 + d) kz m = 0 := fun m m1 m2 => by
          rw [gx_f (by omega) m2]
          exact g6 _ (by omega) (by omega)
        exact ⟨⟨⟨3, by omega, (gx_f (by omega) (by omega)).trans g5⟩, ⟨0, by omega, z6 5 (by omega) (by omega)⟩, ⟨0, by omega, z6 6 (by omega) (by omega)⟩, Or.inl (z6 7 (by omega) (by omega))⟩, ⟨kz, hkz, rfl⟩, ⟨t1, t2, ((gx_f (by omega) (by omega)).trans g2).trans et⟩, ⟨u1, u2, u3, ((gx_f (by omega) (by omega)).trans g4).trans eu⟩, ⟨0, by omega, z6 4 (by omega) (by omega)⟩, fun m hm => ⟨0, by omega, (gx_a hm).trans (g3 m hm)⟩⟩
      · rw [hgo d (by omega)]
        exact hgc d (by omega)
    obtain ⟨⟨-, b1, b2⟩, b3⟩ := h
    refine ⟨⟨⟨n' + 1, pz, z, fun d => if d = n' then kz else K d, τ, C, by omega, c, ⟨fun d hd => ?_, (hF.R (lt71 (by omega)) (fun z => by omega)).trans hcf.2.1, hcf.2.2.1.fr hF (fun j k a z => by omega), hcf.2.2.2.1.keep hcf.2.2.1 hF (fun j k a z => by omega), hcf.2.2.2.2⟩, h99, fun d hd => gr_gx (by omega) (hgx d hd), fun d hd => by
      show GC 9999 (gX SX' (21 + 6 * 0 + d) (if d = n' then kz else K d))
      rw [hgx d hd]
      exact hgc' d hd, hH.kr r0.kr (by rw [vec_h, vec_h]; exact r0.1)⟩, eo_step (by omega) b1 hF (fun z => by omega), es_step (by omega) b2 hF (fun z => by omega) (fun i hi => by rw [vec_se _ hi, vec_se _ hi]; exact r0.2.2.2.2 id i hi)⟩, e1_step b3 hF ⟨fun c k a b d z => by omega, fun c a z => by omega, fun z => by omega, fun z => by omega, fun z => by omega, fun z => by omega⟩ (fun z => by omega) (fun j k a z => by omega) r0.kr r5⟩
    show fR SX' (21 + 6 * 0 + d) 2 = some (2 + (if d = n' then kz else K d)) ∧ (if d = n' then kz else K d) < 7
    by_cases y : d = n'
    · subst y
      rw [if_pos rfl]
      exact ⟨g1, hkz⟩
    · rw [if_neg y]
      exact ⟨(hF.R (lt71 (by omega)) (fun z => by omega)).trans (hcf.1 d (by omega)).1, (hcf.1 d (by omega)).2⟩
theorem eq_ctr {n pz zq p z : Nat} {K : Nat → Nat} {τ τ' : Nat → Int32} {C C' : Cls} {SX U SR SR' : FS} (h : EQ SX SR) (hU : CUS SX SR n pz zq K τ C) (hF : Fr (fun j k => (j = 0 ∧ k = 9) ∨ (j = 9 ∧ k = 7) ∨ (j = 57 ∧ (k = 1 ∨ k = 2 ∨ k = 3 ∨ k = 4 ∨ k = 7 ∨ k = 8)) ∨ ((j = 59 ∨ j = 60) ∧ k = 99)) SX U)
    (hp : fR U (9 + 0) 7 = some p) (hc : COK U p) (hx : CTX U p (lstW 2 5 C') (lstW 3 1 C') (cds C')) (hs : SAYS cdA τ' C') (h9 : N99 C') (hH : HOL SR' (vec SR' 2) z τ' C') (a1 : fA SR' 1 = fA SR 1) (a2 : fA SR' 2 = fA SR 2) (a5 : fA SR' 5 = fA SR 5) (hR : KR SR SR') : EQ U SR' := by
  obtain ⟨hn6, hn, hcf, -, hg, hgc, -⟩ := hU
  obtain ⟨⟨-, b1, b2⟩, b3⟩ := h
  have hgr : ∀ d, gR SR' d = gR SR d := fun d => by unfold gR; rw [a1]
  have hgx : ∀ d, d < n → gX U (21 + 6 * 0 + d) (K d) = gR SR' d := fun d hd => by
    rw [hgr, gx_same hF (by omega) (fun k a b z => by omega) (fun z => by omega)]
    exact hg d hd
  exact ⟨⟨⟨n, p, z, K, τ', C', hn6, (hF.F (lt71 (by omega)) (fun z => by omega)).trans hn, ⟨fun d hd => ⟨(hF.R (lt71 (by omega)) (fun z => by omega)).trans (hcf.1 d hd).1, (hcf.1 d hd).2⟩, hp, hc, hx, hs⟩, h9, fun d hd => gr_gx (by omega) (hgx d hd), fun d hd => by rw [hgx d hd, hgr]; exact hgc d hd, hH⟩, eo_step (by omega) b1 hF (fun z => by omega), es_step (by omega) b2 hF (fun z => by omega) (fun i hi => by rw [vec_se _ hi, vec_se _ hi, a2])⟩, e1_step b3 hF ⟨fun c k a b d z => by omega, fun c a z => by omega, fun z => by omega, fun z => by omega, fun z => by omega, fun z => by omega⟩ (fun z => by omega) (fun j k a z => by omega) hR a5⟩
theorem eq_counter {n pz zq z nc zr ncr : Nat} {K : Nat → Nat} {τ : Nat → Int32} {C0 : Cls} {r r' : Int32} {SX U SR SR' : FS} (h : EQ SX SR) (hU : CUS SX SR n pz zq K τ C0) (hL : LC SX SR) (hTx : TXz SX z (hrS (fA SR 6) z)) (hnc : fF SX 0 9 = nI nc) (hnc6 : nc ≤ 6) (hz : fF SR 0 17 = nI zr) (hz1 : zr ≤ 100) (hcr : fF SR 0 20 = nI ncr) (hcr6 : ncr ≤ 6)
    (hF : Fr (fun j k => (j = 0 ∧ k = 9) ∨ (j = 9 ∧ k = 7) ∨ (j = 57 ∧ (k = 1 ∨ k = 2 ∨ k = 3 ∨ k = 4 ∨ k = 7 ∨ k = 8)) ∨ ((j = 59 ∨ j = 60) ∧ k = 99)) SX U) (hC : CnP (hrS (fA SR 6) z) z nc r SX U) (hT : CNT ncr SR SR') (hR : CNx (hrS (fA SR 6) zr) zr ncr r' SR SR') (hE : CNE (hrS (fA SR 6) zr) zr ncr SR SR') : EQ U SR' := by
  obtain ⟨y, m, h1, h2, h3, h4, h5⟩ := hL
  have e1 : z = y := (nI_eq (by have := hTx.2.1; omega) (by have := h2.2.1; omega)).mp (hTx.1.symm.trans h2.1)
  have e2 : y = zr := (nI_eq (by have := h2.2.1; omega) (by omega)).mp (h3.symm.trans hz)
  have e3 : nc = m := (nI_eq (by omega) (by omega)).mp (hnc.symm.trans h4)
  have e4 : m = ncr := (nI_eq (by omega) (by omega)).mp (h5.symm.trans hcr)
  subst e1
  subst e2
  subst e3
  subst e4
  have eu := cnt_u (hrS (fA SR 6) z) z
  have a1 : fA SR' 1 = fA SR 1 := hT.2.2.2.1 1 (by omega) (by omega) (by omega) (by omega) (by omega) (by omega) (by omega)
  have a2 : fA SR' 2 = fA SR 2 := hT.2.2.2.1 2 (by omega) (by omega) (by omega) (by omega) (by omega) (by omega) (by omega)
  have a5 : fA SR' 5 = fA SR 5 := hT.2.2.2.1 5 (by omega) (by omega) (by omega) (by omega) (by omega) (by omega) (by omega)
  have hKR : KR SR SR' := fun k k6 ek => by
    have ekn : k = nc := (nI_eq (by omega) (by omega)).mp (ek.symm.trans hcr)
    subst ekn
    refine ⟨hE.1, ?_⟩
    rcases hT.2.2.2.2.2.1 with q | q
    · exact ⟨k, Nat.le_refl _, k6, q.1⟩
    · exact ⟨k + 1, by omega, by omega, q.2.1⟩
  rcases hC with ⟨a, b, c⟩ | ⟨a, b, c⟩
  · rcases hR with ⟨-, d, e⟩ | ⟨d, -⟩
    · exact eq_same h c e
    · omega
  · rcases hR with ⟨d, -⟩ | ⟨-, d, e⟩
    · omega
    · rcases c with ⟨c1, c2, c3, c4⟩ | ⟨C, p, c1, c2, c3, c4, c5, c6⟩
      · rw [mp_n _ c1] at eu
        rcases e with ⟨f1, f2, f3⟩ | ⟨C', f1, -⟩
        · have g3 : fF SR' 0 3 = fF SR 0 3 := by
            rcases hT.2.2.2.2.2.1 with q | q
            · exact q.2
            · have := (nI_eq (a := nc) (b := nc + 1) (by omega) (by omega)).mp (f3.symm.trans q.2.1)
              omega
          have hcf := hU.2.2.1
          exact eq_ctr h hU hF (c4.trans hcf.2.1) (hcf.2.2.1.at hF (fun k z => by have := hcf.2.2.1.1; omega)) (hcf.2.2.2.1.keep hcf.2.2.1 hF (fun j k a z => by omega)) hcf.2.2.2.2 hU.2.2.2.1 (hU.2.2.2.2.2.2.kr hKR (by rw [vec_h, vec_h]; exact g3)) a1 a2 a5 hKR
        · rw [eu] at f1
          cases f1
      · rw [mp_s _ c1] at eu
        rcases e with ⟨f1, -⟩ | ⟨C', f1, f2, f3, f4⟩
        · rw [eu] at f1
          cases f1
        · rw [eu] at f1
          cases f1
          exact eq_ctr (z := z) h hU hF c4 c5 c6 (cntP_says hz1 c1) (cntP_99 c1) (Or.inr ⟨nc, nc + 1, by omega, f3, by omega, by rw [vec_h]; exact f4, hE.2 _ (by rw [eu]; rfl) a⟩) a1 a2 a5 hKR
theorem eq_0 {S : FS} (hF : Fr (fun j k => j = 62 ∧ k = 99) X0 S) (h2 : fF S 0 10 = 0) : EQ S R0 := by
  have hl : ∀ {j : Nat}, j < 71 → j < 71 + fC X0 := fun h => by rw [X0_c]; omega
  have hd : ∀ a : Nat, a = 72 ∨ a = 73 → DIN X0 a 0 := fun a e => by rcases e with rfl | rfl <;> exact ⟨by omega, by rw [X0_c]; omega, rfl, rfl⟩
  have hc : COK X0 71 := ⟨by omega, by rw [X0_c]; omega, rfl, 72, 73, 0, rfl, rfl, by omega, hd 72 (Or.inl rfl), hd 73 (Or.inr rfl)⟩
  have hx : CTX X0 71 (lstW 2 5 ([] : Cls)) (lstW 3 1 ([] : Cls)) (cds []) := ⟨rfl, rfl, 72, 73, rfl, rfl, hd 72 (Or.inl rfl), hd 73 (Or.inr rfl), fun i hi => absurd hi (Nat.not_lt_zero _)⟩
  refine ⟨⟨⟨0, 71, 0, fun _ => 0, fun _ => 0, [], by omega, (hF.F (j := 9 + 0) (k := 3) (hl (by omega)) (fun q => by omega)).trans rfl, ⟨fun c hc => absurd hc (Nat.not_lt_zero _), (hF.R (j := 9 + 0) (k := 7) (hl (by omega)) (fun q => by omega)).trans rfl, hc.fr hF (fun j k a q => by omega), hx.keep hc hF (fun j k a q => by omega), fun c hc => absurd hc List.not_mem_nil⟩, ⟨Nat.zero_le _, fun c hc => absurd hc List.not_mem_nil⟩, fun c hc => absurd hc (Nat.not_lt_zero _), fun c hc => absurd hc (Nat.not_lt_zero _), Or.inl ⟨by rw [vec_h]; rfl, rfl⟩⟩, ⟨2, by omega, (hF.F (j := 9 + 0) (k := 6) (hl (by omega)) (fun q => by omega)).trans rfl⟩, fun k hk => ?_⟩, fun q => absurd h2 q⟩
  rw [vec_se _ hk, hF.A (j := 9 + 0 + 6) (hl (by omega)) (fun q => by omega)]
  rfl
theorem judge_r {n : Nat} {K : Nat → Nat} {t i r r' : Int32} {SX SR : FS} (hX : XI SX) (hT : TR SX SR) (hN : NT SX) (hI : IT SX SR) (hg : ∀ d, d < n → gX SX (21 + 6 * 0 + d) (K d) = gR SR d)
    (h1 : r = judP (fA SX 62 t.toNatClampNeg = 0 ∨ fA SX 62 t.toNatClampNeg = -1) (fA SX 63 t.toNatClampNeg) (fun k => fL SX (65 + t.toNatClampNeg) k) (fun d => gX SX (21 + 6 * 0 + d) (K d) 3) t i n)
    (h2 : r' = judP (fA SR 22 t.toNatClampNeg = 0 ∨ fA SR 18 t.toNatClampNeg = 0) (mnR (fA SR 22 t.toNatClampNeg) (fA SR 19 t.toNatClampNeg)) (fun q => fL SR 20 (60 * t.toNatClampNeg + q)) (fun d => gR SR d 3) t i n) : r = r' := by
  rw [h1, h2]
  clear h1 h2
  unfold judP
  by_cases c : 0 ≤ t ∧ t ≤ 5
  · rw [if_pos c, if_pos c]
    obtain ⟨ht5, -⟩ := in_n (b := 5) c (by decide)
    generalize t.toNatClampNeg = ta at *
    obtain ⟨g1, g2, g3⟩ := hT ta (by omega)
    obtain ⟨L, eL, hL⟩ := XI.lens hX (t := ta) (by omega)
    have em : fA SX 63 ta = mnR (fA SR 22 ta) (fA SR 19 ta) := by
      unfold mnR
      by_cases z : fA SR 22 ta = 0
      · rw [if_pos z]
        exact (hN ta (by omega)).1 (g1.mpr z)
      · rw [if_neg z]
        exact g3
    have ei : (fA SX 62 ta = 0 ∨ fA SX 62 ta = -1) ↔ (fA SR 22 ta = 0 ∨ fA SR 18 ta = 0) := by
      constructor
      · rintro (q | q)
        · exact Or.inr ((g2 (by rw [q]; decide)).symm.trans q)
        · exact Or.inl (g1.mp q)
      · rintro (q | q)
        · exact Or.inr (g1.mpr q)
        · by_cases z : fA SX 62 ta = -1
          · exact Or.inr z
          · exact Or.inl ((g2 z).trans q)
    have ej : juN (fA SX 63 ta) (fun k => fL SX (65 + ta) k) (fun d => gX SX (21 + 6 * 0 + d) (K d) 3) i n 0 = juN (mnR (fA SR 22 ta) (fA SR 19 ta)) (fun q => fL SR 20 (60 * ta + q)) (fun d => gR SR d 3) i n 0 := by
      rw [← em]
      refine ju_cg n 0 (fun k => ?_) (fun d _ hd => congrFun (hg d (by omega)) 3)
      by_cases hk : k < 60
      · exact Or.inl (hI ta (by omega) k hk)
      · refine Or.inr ?_
        rw [eL, nI_toInt (by omega)]
        omega
    by_cases z : fA SX 62 ta = 0 ∨ fA SX 62 ta = -1
    · rw [if_pos z, if_pos (ei.mp z), ej]
    · rw [if_neg z, if_neg (fun q => z (ei.mpr q))]
  · rw [if_neg c, if_neg c]
