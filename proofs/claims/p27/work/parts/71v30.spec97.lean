theorem nea_cg {f f' : Nat → Int32} : ∀ {k : Nat}, (∀ d, d < k → f d = f' d) → neaN f k = neaN f' k := by
  intro k
  induction k with
  | zero => exact fun _ => rfl
  | succ k ih =>
    intro h
    unfold neaN
    rw [ih (fun d hd => h d (by omega)), h k (by omega)]
section PG
variable {α : Type} {off ln pr : Int32} {τ : Nat → Int32} {C : ClA α} {n : Nat} {G G' : Nat → Nat → Int32}
theorem at_g (h : ∀ d, d < n → G d = G' d) {x : Int32} (hn : n ≤ 6) (hx : isC n x) : G x.toNatClampNeg = G' x.toNatClampNeg := by
  obtain ⟨j, hj, rfl⟩ := isC_t hx rfl hn
  rw [nI_clamp (by omega)]
  exact h j hj
theorem lost_g (h : ∀ d, d < n → G d = G' d) (x : Int32) : lostP off ln τ C n G x = lostP off ln τ C n G' x := by unfold lostP; rw [cut_cg h]
theorem nob_g (h : ∀ d, d < n → G d = G' d) : nobP off ln τ C n G = nobP off ln τ C n G' := by unfold nobP; rw [cut_cg h]
theorem lea_g (h : ∀ d, d < n → G d = G' d) (hn : n ≤ 6) (x q : Int32) : leaP off ln τ C n G x q = leaP off ln τ C n G' x q := by
  unfold leaP
  by_cases c : isC n x
  · rw [if_pos c, if_pos c, at_g h hn c]
  · rw [if_neg c, if_neg c]
theorem over_g (h : ∀ d, d < n → G d = G' d) (hn : n ≤ 6) (x p y : Int32) : overP off ln pr τ C n G x p y = overP off ln pr τ C n G' x p y := by
  unfold overP
  by_cases c : isC n x
  · rw [if_pos c, if_pos c, at_g h hn c]
  · rw [if_neg c, if_neg c]
theorem on_g (h : ∀ d, d < n → G d = G' d) (hn : n ≤ 6) (x y w : Int32) : onP off ln pr τ C n G x y w = onP off ln pr τ C n G' x y w := by
  unfold onP
  by_cases c : isC n x
  · rw [if_pos c, if_pos c, at_g h hn c]
  · rw [if_neg c, if_neg c]
theorem nea_g (h : ∀ d, d < n → G d = G' d) (y : Int32) : neaP off ln τ C n G y = neaP off ln τ C n G' y := by
  have e : neaN (neaF off ln τ C G y) n = neaN (neaF off ln τ C G' y) n := nea_cg (fun d hd => by unfold neaF; rw [h d hd])
  unfold neaP
  rw [e]
theorem dar_g (h : ∀ d, d < n → G d = G' d) (y w : Int32) : darP ln pr τ C n G y w = darP ln pr τ C n G' y w := by
  unfold darP
  rw [show darF ln pr τ C n G y.toNatClampNeg = darF ln pr τ C n G' y.toNatClampNeg from funext (fun c => by unfold darF; rw [cut_cg h])]
theorem who_g (h : ∀ d, d < n → G d = G' d) {s s' : Nat → Int32} {z : Nat} (hs : ∀ i, i < z → s i = s' i) : whoP off ln τ C n G s z = whoP off ln τ C n G' s' z := by
  unfold whoP
  exact congrArg nI (wh_cg (fun d hd => by
    show csN off ln τ C (nI d) s z 0 (G d) = csN off ln τ C (nI d) s' z 0 (G' d)
    rw [h d hd]
    exact cs_cg z 0 _ (fun i a b => hs i (by omega))))
theorem off_g (h : ∀ d, d < n → G d = G' d) {s s' : Nat → Int32} {z : Nat} (hn : n ≤ 6) (hs : ∀ i, i < z → s i = s' i) (x w : Int32) : offP ln τ C n G s z x w = offP ln τ C n G' s' z x w := by
  unfold offP
  by_cases c : isC n x
  · rw [if_pos c, if_pos c, at_g h hn c, show (fun o => csN (nI o) ln τ C x s z 0 (G' x.toNatClampNeg)) = (fun o => csN (nI o) ln τ C x s' z 0 (G' x.toNatClampNeg)) from funext (fun o => cs_cg z 0 _ (fun i a b => hs i (by omega)))]
  · rw [if_neg c, if_neg c]
theorem of_g (h : ∀ d, d < n → G d = G' d) (hn : n ≤ 6) (x w : Int32) : ofP off τ C n G x w = ofP off τ C n G' x w := by
  unfold ofP
  by_cases c : isC n x
  · rw [if_pos c, if_pos c, at_g h hn c]
  · rw [if_neg c, if_neg c]
theorem tld_g (h : ∀ d, d < n → G d = G' d) (w : Int32) : tldP off ln pr n G w = tldP off ln pr n G' w := by unfold tldP; rw [go_cg h]
theorem vit_g (h : ∀ d, d < n → G d = G' d) (hn : n ≤ 6) (x : Int32) : vitP off pr τ C n G x = vitP off pr τ C n G' x := by
  unfold vitP
  by_cases c : isC n x
  · rw [if_pos c, if_pos c, at_g h hn c]
  · rw [if_neg c, if_neg c]
theorem vig_g (h : ∀ d, d < n → G d = G' d) (x : Int32) : ∀ d, d < n → vitG off ln τ C n G x d = vitG off ln τ C n G' x d := fun d hd => by unfold vitG; rw [h d hd]
theorem asd_g (h : ∀ d, d < n → G d = G' d) (hn : n ≤ 6) (x w : Int32) : asdP off τ C n G x w = asdP off τ C n G' x w := by
  unfold asdP
  by_cases c : isC n x
  · rw [if_pos c, if_pos c, at_g h hn c]
  · rw [if_neg c, if_neg c]
theorem odd_g (h : ∀ d, d < n → G d = G' d) (x w : Int32) : oddP off ln τ C n G x w = oddP off ln τ C n G' x w := by unfold oddP; rw [cut_cg h]
theorem mea_g (h : ∀ d, d < n → G d = G' d) (x w : Int32) : meaP off ln τ C n G x w = meaP off ln τ C n G' x w := by unfold meaP; rw [cut_cg h]
theorem sag_g (h : ∀ d, d < n → G d = G' d) {mi : Int32} : ∀ d, d < n → saG mi off ln τ C n G d = saG mi off ln τ C n G' d := fun d hd => by unfold saG; rw [h d hd]
theorem sb_g (h : ∀ d, d < n → G d = G' d) : sbN off τ C G n = sbN off τ C G' n := sb_cg h
end PG
section PA
variable {α β : Type} {off ln pr : Int32} {τ : Nat → Int32} {C : ClA α} {D : ClA β} {n : Nat} {G : Nat → Nat → Int32}
theorem odd_ae (h : AE τ C D) (x w : Int32) : oddP off ln τ C n G x w = oddP off ln τ D n G x w := by unfold oddP; rw [st_ae h, rf_ae h]
theorem asd_ae (h : AE τ C D) (x w : Int32) : asdP off τ C n G x w = asdP off τ D n G x w := by unfold asdP; rw [h]
theorem meN_ae (h : AE τ C D) : ∀ (w : Nat) (G : Nat → Nat → Int32), meN off ln τ C n w G = meN off ln τ D n w G := by
  intro w
  induction w with
  | zero => exact fun _ => rfl
  | succ w ih =>
    intro G
    show (sbN off τ C G n - asN G n).toNatClampNeg + meN off ln τ C n w (saG 1 off ln τ C n G) = (sbN off τ D G n - asN G n).toNatClampNeg + meN off ln τ D n w (saG 1 off ln τ D n G)
    rw [ih, sb_ae h, sa_ae h]
theorem mea_ae (h : AE τ C D) (x w : Int32) : meaP off ln τ C n G x w = meaP off ln τ D n G x w := by unfold meaP; rw [meN_ae h, vn_ae h]
end PA
/-- a shop of the class and a row of numbers of the reference: customers and counter alike -/
def ECU (SX SR : FS) (h : Nat) (w : Nat → Int32) : Prop := ∃ n pz z K τ C, n ≤ 6 ∧ fF SX (9 + h) 3 = nI n ∧ CuF SX h n pz τ C K ∧ N99 C ∧ (∀ c, c < n → ∀ k, k < 12 → gX SX (21 + 6 * h + c) (K c) k = w (5 + (12 * c + k))) ∧ (∀ c, c < n → GC 9999 (gX SX (21 + 6 * h + c) (K c))) ∧ ((w 2 = -1 ∧ C = []) ∨ ∃ k nc : Nat, nc ≤ 6 ∧ fF SR 0 20 = nI nc ∧ k < nc ∧ w 2 = nI k ∧ HE SR k z τ (mU C))
def EO (SX : FS) (h : Nat) : Prop := ∃ o : Nat, o ≤ 30 ∧ fF SX (9 + h) 6 = nI o
def ES (SX : FS) (h : Nat) (w : Nat → Int32) : Prop := ∀ k, k < 4 → fA SX (9 + h + 6) k = w (77 + k)
def EQ (SX SR : FS) : Prop := (ECU SX SR 0 (vec SR) ∧ EO SX 0 ∧ ES SX 0 (vec SR)) ∧ (¬ fF SX 0 10 = 0 → ECU SX SR 1 (fA SR 5) ∧ EO SX 1 ∧ ES SX 1 (fA SR 5))
/-- the reference's counters are kept, perhaps one more -/
def KR (SR SR' : FS) : Prop := ∀ nc : Nat, nc ≤ 6 → fF SR 0 20 = nI nc → EKP nc SR SR' ∧ ∃ nc' : Nat, nc ≤ nc' ∧ nc' ≤ 6 ∧ fF SR' 0 20 = nI nc'
theorem ec_step {P : Nat → Nat → Prop} {SX SX' SR SR' : FS} {h : Nat} {w w' : Nat → Int32} (hh : h < 3) (k : ECU SX SR h w) (hF : Fr P SX SX') (n1 : ∀ c k, c < 6 → 2 ≤ k → k ≤ 9 → ¬ P (21 + 6 * h + c) k) (n2 : ∀ c, c < 6 → ¬ P (21 + 6 * h + c + 18) 99) (n3 : ¬ P (9 + h) 3) (n7 : ¬ P (9 + h) 7) (n71 : ∀ j k, 71 ≤ j → ¬ P j k) (ew : ∀ i, i < 72 → w' (5 + i) = w (5 + i)) (e2 : w' 2 = w 2) (hR : KR SR SR') : ECU SX' SR' h w' := by
  obtain ⟨n, pz, z, K, τ, C, hn, h1, h2, h3, h4, h5, h6⟩ := k
  have hg : ∀ c, c < n → gX SX' (21 + 6 * h + c) (K c) = gX SX (21 + 6 * h + c) (K c) := fun c hc => gx_same hF (by omega) (fun k a b => n1 c k (by omega) (by omega) b) (n2 c (by omega))
  refine ⟨n, pz, z, K, τ, C, hn, (hF.F (lt71 (by omega)) n3).trans h1, h2.fr hh hn hF (fun c hc => n1 c 2 hc (by omega) (by omega)) n7 n71, h3, fun c hc k hk => ?_, fun c hc => by rw [hg c hc]; exact h5 c hc, ?_⟩
  · rw [hg c hc, ew _ (by omega)]
    exact h4 c hc k hk
  · rcases h6 with ⟨a, b⟩ | ⟨k, nc, a, b, c, d, e⟩
    · exact Or.inl ⟨e2.trans a, b⟩
    · obtain ⟨r1, nc', r2, r3, r4⟩ := hR nc a b
      exact Or.inr ⟨k, nc', r3, r4, by omega, e2.trans d, e.keep c r1⟩
theorem eo_step {P : Nat → Nat → Prop} {SX SX' : FS} {h : Nat} (hh : h < 3) (k : EO SX h) (hF : Fr P SX SX') (n6 : ¬ P (9 + h) 6) : EO SX' h := by
  obtain ⟨o, a, b⟩ := k
  exact ⟨o, a, (hF.F (lt71 (by omega)) n6).trans b⟩
theorem es_step {P : Nat → Nat → Prop} {SX SX' : FS} {h : Nat} {w w' : Nat → Int32} (hh : h < 3) (k : ES SX h w) (hF : Fr P SX SX') (n : ¬ P (9 + h + 6) 99) (ew : ∀ i, i < 4 → w' (77 + i) = w (77 + i)) : ES SX' h w' := fun i hi => by
  rw [hF.A (lt71 (by omega)) n, ew i hi]
  exact k i hi
/-- what of the reference stays: holding, counters; the customers but for A, the cuts seen but for B -/
def RE (A B : Prop) (S S' : FS) : Prop := fF S' 0 3 = fF S 0 3 ∧ fF S' 0 20 = fF S 0 20 ∧ (∀ i, 7 ≤ i → i < 13 → fA S' i = fA S i) ∧ (¬ A → ∀ i, i < 72 → fA S' 1 i = fA S 1 i) ∧ (¬ B → ∀ i, i < 4 → fA S' 2 i = fA S 2 i)
theorem RE.kr {A B : Prop} {S S' : FS} (h : RE A B S S') : KR S S' := fun nc h6 e => ⟨fun j _ => ⟨by rw [h.2.2.1 8 (by omega) (by omega)], by rw [h.2.2.1 12 (by omega) (by omega)], fun p _ => by rw [h.2.2.1 7 (by omega) (by omega)], fun i k hi _ => by rw [h.2.2.1 i (by omega) (by omega)]⟩, nc, Nat.le_refl _, h6, h.2.1.trans e⟩
section REL
variable {A B : Prop} {S T U : FS}
theorem re_tr (h : RE A B S T) (k : RE A B T U) : RE A B S U := ⟨k.1.trans h.1, k.2.1.trans h.2.1, fun i a b => (k.2.2.1 i a b).trans (h.2.2.1 i a b), fun q i hi => (k.2.2.2.1 q i hi).trans (h.2.2.2.1 q i hi), fun q i hi => (k.2.2.2.2 q i hi).trans (h.2.2.2.2 q i hi)⟩
theorem re_sF {k : Nat} {v : Int32} (h3 : k ≠ 3) (h20 : k ≠ 20) : RE A B S (setF S 0 k v) := ⟨by rw [fF_setF, if_neg (by omega)], by rw [fF_setF, if_neg (by omega)], fun _ _ _ => rfl, fun _ _ _ => rfl, fun _ _ _ => rfl⟩
theorem re_T : RE A B S (setF S 0 8 0) := re_sF (by omega) (by omega)
theorem re_E (k : T = setF S 0 8 0) : RE A B S T := k ▸ re_T
theorem re_sA {j : Nat} {f : Nat → Int32} (h1 : j = 1 → A) (h2 : j = 2 → B) (h3 : j < 7 ∨ 13 ≤ j) : RE A B S (setA S j f) := ⟨by rw [fF_setA], by rw [fF_setA], fun i a b => by rw [fA_setA, if_neg (by omega)], fun q i _ => by rw [fA_setA, if_neg (fun e => q (h1 e.symm))], fun q i _ => by rw [fA_setA, if_neg (fun e => q (h2 e.symm))]⟩
theorem re_sL {j : Nat} {f : Nat → Int64} : RE A B S (setL S j f) := ⟨by rw [fF_setL], by rw [fF_setL], fun i a b => by rw [fA_setL], fun q i _ => by rw [fA_setL], fun q i _ => by rw [fA_setL]⟩
theorem re_a {j : Nat} {f : Nat → Int32} (h1 : j = 1 → A) (h2 : j = 2 → B) (h3 : j < 7 ∨ 13 ≤ j) : RE A B S (setA (setF S 0 8 0) j f) := re_tr re_T (re_sA h1 h2 h3)
theorem re_f {k : Nat} {v : Int32} (h3 : k ≠ 3) (h20 : k ≠ 20) : RE A B S (setF (setF S 0 8 0) 0 k v) := re_tr re_T (re_sF h3 h20)
theorem re_af {j k : Nat} {f : Nat → Int32} {v : Int32} (h1 : j = 1 → A) (h2 : j = 2 → B) (h3 : j < 7 ∨ 13 ≤ j) (k3 : k ≠ 3) (k20 : k ≠ 20) : RE A B S (setF (setA (setF S 0 8 0) j f) 0 k v) := re_tr (re_a h1 h2 h3) (re_sF k3 k20)
theorem re_if {P : Prop} [Decidable P] {X Y : FS} (k : T = if P then X else Y) (a : RE A B S X) (b : RE A B S Y) : RE A B S T := by
  rw [k]
  split
  · exact a
  · exact b
theorem re_l {w : Nat → Int64} : RE A B S (setL (setF S 0 8 0) 20 w) := re_tr re_T re_sL
theorem re_4 {f g h : Nat → Int32} {w : Nat → Int64} : RE A B S (setL (setA (setA (setA (setF S 0 8 0) 22 f) 18 g) 19 h) 20 w) := re_tr (re_tr (re_tr (re_a (fun q => absurd q (by omega)) (fun q => absurd q (by omega)) (by omega)) (re_sA (fun q => absurd q (by omega)) (fun q => absurd q (by omega)) (by omega))) (re_sA (fun q => absurd q (by omega)) (fun q => absurd q (by omega)) (by omega))) re_sL
theorem re_H (k : HFr (setF S 0 8 0) T) : RE A B S T := re_tr re_T ⟨k.2.2.1 3, k.2.2.1 20, fun i a b => k.2.2.2 i (by omega) (by omega) (by omega), fun _ i _ => congrFun (k.2.2.2 1 (by omega) (by omega) (by omega)) i, fun _ i _ => congrFun (k.2.2.2 2 (by omega) (by omega) (by omega)) i⟩
theorem re_Q (k : QP (setF S 0 8 0) T) : RE A B S T := re_tr re_T ⟨k.2.1 3 (by omega) (by omega) (by omega) (by omega), k.2.1 20 (by omega) (by omega) (by omega) (by omega), fun i a b => k.2.2.2.1 i (by omega) (by omega) (by omega) (by omega) (by omega) (by omega) (by omega), fun _ i hi => k.2.2.2.2.2.2 i hi, fun _ i hi => k.2.2.2.2.1 i hi⟩
theorem re_M (k : MO (setF S 0 8 0) T) : RE True B S T := re_tr re_T ⟨k.2.2.1 3 (by omega) (by omega) (by omega) (by omega) (by omega) (by omega), k.2.2.1 20 (by omega) (by omega) (by omega) (by omega) (by omega) (by omega), fun i a b => k.2.2.2.1 i (by omega) (by omega) (by omega) (by omega), fun q => absurd trivial q, fun _ i _ => congrFun (k.2.2.2.1 2 (by omega) (by omega) (by omega) (by omega)) i⟩
theorem re_shift {P1 P2 P3 P4 P5 P6 Q : Prop} {w : Nat → Int64} (k : (P1 ∧ P2 ∧ P3 ∧ P4 ∧ P5 ∧ P6 ∧ ∃ cp, T = setL (setL (setF S 0 8 0) 21 cp) 20 w) ∨ (Q ∧ T = (setF S 0 8 0))) : RE A B S T := by
  rcases k with ⟨-, -, -, -, -, -, cp, rfl⟩ | ⟨-, rfl⟩
  · exact re_tr (re_tr re_T re_sL) re_sL
  · exact re_T
theorem re_act {P : Prop} {c k v : Int32} {bs : List Int32} (e : (¬ P ∧ T = (setF (setF S 0 8 0) 0 40 0)) ∨ (P ∧ T = ntl 0 (setF (setF (setF (setF (setF S 0 8 0) 0 40 0) 0 41 k) 0 42 v) 0 43 c) bs)) : RE A B S T := by
  rcases e with ⟨-, rfl⟩ | ⟨-, rfl⟩
  · exact re_f (by omega) (by omega)
  · exact re_tr (re_tr (re_tr (re_tr (re_f (by omega) (by omega)) (re_sF (by omega) (by omega))) (re_sF (by omega) (by omega))) (re_sF (by omega) (by omega))) ⟨ntl_fF _ _ _ (by decide), ntl_fF _ _ _ (by decide), fun i a b => ntl_fA _ _ _ (by omega), fun _ i _ => congrFun (ntl_fA _ _ _ (by omega)) i, fun _ i _ => congrFun (ntl_fA _ _ _ (by omega)) i⟩
theorem vec_h (S : FS) : vec S 2 = fF S 0 3 := vec_lo S (j := 2) (by omega)
end REL
