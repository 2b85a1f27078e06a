/-- what lies at a place of the class's world -/
def pk (i : Nat) : Nat := if i < 2 then i else if i < 9 then 2 else if i < 12 then 3 else if i < 15 then 4 else if i < 18 then 5 else if i < 21 then 6 else if i < 39 then 7 else if i < 57 then 8 else if i = 57 then 9 else if i = 58 then 10 else if i < 61 then 11 else if i = 61 then 12 else if i < 64 then 13 else if i = 64 then 14 else if i < 71 then 15 else 16
/-- the class of the kind of that number -/
def kcl (n : Nat) : Nat := if n = 0 then 7 else if n = 1 then 10 else if n = 2 then 6 else if n = 3 then 2 else if n = 4 then 4 else if n = 5 then 8 else 12
def dynX (G : GG) (ad : Nat → Nat) (f a : Nat → Int32) (r : Nat → Option Nat) (n κ : Nat) : va_E :=
  if κ = 0 then .inr (3, [.int (f 0), .int (f 1), va_rf ((r 2).map ad), va_rf ((r 3).map ad)])
  else if κ = 1 then .inl (G.2.1 0, n, .inl a)
  else .inl (G.2.1 6, n, .inr (.inr (.inr (.inr (fun k => (r k).map G.2.2.2)))))
def cellX (G : GG) (ad : Nat → Nat) (i : Nat) (f a : Nat → Int32) (L : Nat → Int64) (r : Nat → Option Nat) (n κ : Nat) : va_E :=
  match pk i with
  | 0 => .inr (13, [.ref (ad 1), .ref (ad 9), .ref (ad 10), .ref (ad 11), .ref (ad 57), .ref (ad 61), .ref (ad 62), .ref (ad 63), .ref (ad 64), .int (f 9), .int (f 10)])
  | 1 => .inl (G.2.1 4, 7, .inr (.inr (.inr (.inr (fun k => if k < 7 then some (ad (2 + k)) else none)))))
  | 2 => .inr (kcl (i - 2), [.int (f 0)])
  | 3 => .inr (9, [.ref (ad (i + 3)), .ref (ad (i + 6)), .ref (ad (i + 9)), .int (f 3), .int (f 4), .int (f 5), .int (f 6), va_rf ((r 7).map ad)])
  | 4 => .inl (G.2.1 5, 6, .inr (.inr (.inr (.inr (fun k => if k < 6 then some (ad (21 + 6 * (i - 12) + k)) else none)))))
  | 5 => .inl (G.2.1 0, 4, .inl a)
  | 6 => .inl (G.2.1 0, 8, .inl a)
  | 7 => .inr (5, [.int (f 0), .ref (ad (i + 18)), va_rf ((r 2).map ad), .int (f 3), .int (f 4), .int (f 5), .int (f 6), .int (f 7), .int (f 8), .int (f 9)])
  | 8 => .inl (G.2.1 0, 4, .inl a)
  | 9 => .inr (11, [.ref (ad 58), .int (f 1), .int (f 2), .int (f 3), .int (f 4), .ref (ad 59), .ref (ad 60), .int (f 7), .int (f 8)])
  | 10 => .inl (G.2.1 2, 100, .inl a)
  | 11 => .inl (G.2.1 0, 100, .inl a)
  | 12 => .inr (1, [.int (f 0), .ref (match r 1 with | none => G.2.2.1 | some k => ad k), .int (f 2)])
  | 13 => .inl (G.2.1 0, 6, .inl a)
  | 14 => .inl (G.2.1 7, 6, .inr (.inr (.inr (.inr (fun k => if k < 6 then some (ad (65 + k)) else none)))))
  | 15 => .inl (G.2.1 1, 60, .inr (.inl L))
  | _ => dynX G ad f a r n κ
def cX (G : GG) (ad : Nat → Nat) (S : FS) (i : Nat) : va_E := cellX G ad i (fF S i) (fA S i) (fL S i) (fR S i) (fN S i) (fK S i)
def wX (G : GG) (ad : Nat → Nat) (S : FS) : va_W := ix (71 + fC S) ad (cX G ad S)
theorem wX_setF {G : GG} {ad : Nat → Nat} {S : FS} {i k : Nat} {v : Int32} {c : va_E} (hi : i < 71 + fC S) (hc : cX G ad (setF S i k v) i = c) : (wX G ad S).set i (ad i, c) = wX G ad (setF S i k v) := by
  refine ix_put hi (fun j => ?_)
  by_cases h : j = i
  · subst h
    rw [va_up_self, hc]
  · rw [va_up_ne _ _ h]
    unfold cX
    rw [show fF (setF S i k v) j = fF S j from va_up_ne _ _ h]
    rfl
theorem wX_setA {G : GG} {ad : Nat → Nat} {S : FS} {i : Nat} {f : Nat → Int32} {c : va_E} (hi : i < 71 + fC S) (hc : cX G ad (setA S i f) i = c) : (wX G ad S).set i (ad i, c) = wX G ad (setA S i f) := by
  refine ix_put hi (fun j => ?_)
  by_cases h : j = i
  · subst h
    rw [va_up_self, hc]
  · rw [va_up_ne _ _ h]
    unfold cX
    rw [show fA (setA S i f) j = fA S j from va_up_ne _ _ h]
    rfl
theorem wX_setL {G : GG} {ad : Nat → Nat} {S : FS} {i : Nat} {f : Nat → Int64} {c : va_E} (hi : i < 71 + fC S) (hc : cX G ad (setL S i f) i = c) : (wX G ad S).set i (ad i, c) = wX G ad (setL S i f) := by
  refine ix_put hi (fun j => ?_)
  by_cases h : j = i
  · subst h
    rw [va_up_self, hc]
  · rw [va_up_ne _ _ h]
    unfold cX
    rw [show fL (setL S i f) j = fL S j from va_up_ne _ _ h]
    rfl
theorem wX_setR {G : GG} {ad : Nat → Nat} {S : FS} {i k : Nat} {v : Option Nat} {c : va_E} (hi : i < 71 + fC S) (hc : cX G ad (setR S i k v) i = c) : (wX G ad S).set i (ad i, c) = wX G ad (setR S i k v) := by
  refine ix_put hi (fun j => ?_)
  by_cases h : j = i
  · subst h
    rw [va_up_self, hc]
  · rw [va_up_ne _ _ h]
    unfold cX
    rw [show fR (setR S i k v) j = fR S j from va_up_ne _ _ h]
    rfl
theorem pk_shop {s : Nat} (h : s < 3) : pk (9 + s) = 3 := by
  rcases (show s = 0 ∨ s = 1 ∨ s = 2 by omega) with rfl | rfl | rfl <;> rfl
theorem pk_cust {k : Nat} (h : k < 18) : pk (21 + k) = 7 := by
  unfold pk
  rw [if_neg (by omega), if_neg (by omega), if_neg (by omega), if_neg (by omega), if_neg (by omega), if_neg (by omega), if_pos (by omega)]
theorem pk_ext {k : Nat} (h : k < 18) : pk (39 + k) = 8 := by
  unfold pk
  rw [if_neg (by omega), if_neg (by omega), if_neg (by omega), if_neg (by omega), if_neg (by omega), if_neg (by omega), if_neg (by omega), if_pos (by omega)]
theorem pk_dyn {k : Nat} (h : 71 ≤ k) : pk k = 16 := by
  unfold pk
  rw [if_neg (by omega), if_neg (by omega), if_neg (by omega), if_neg (by omega), if_neg (by omega), if_neg (by omega), if_neg (by omega), if_neg (by omega), if_neg (by omega), if_neg (by omega), if_neg (by omega), if_neg (by omega), if_neg (by omega), if_neg (by omega), if_neg (by omega)]
theorem cX_cust {G : GG} {ad : Nat → Nat} {S : FS} {i : Nat} (h : pk i = 7) : cX G ad S i = .inr (5, [.int (fF S i 0), .ref (ad (i + 18)), va_rf ((fR S i 2).map ad), .int (fF S i 3), .int (fF S i 4), .int (fF S i 5), .int (fF S i 6), .int (fF S i 7), .int (fF S i 8), .int (fF S i 9)]) := by
  unfold cX cellX
  rw [h]
  rfl
theorem cX_shop {G : GG} {ad : Nat → Nat} {S : FS} {i : Nat} (h : pk i = 3) : cX G ad S i = .inr (9, [.ref (ad (i + 3)), .ref (ad (i + 6)), .ref (ad (i + 9)), .int (fF S i 3), .int (fF S i 4), .int (fF S i 5), .int (fF S i 6), va_rf ((fR S i 7).map ad)]) := by
  unfold cX cellX
  rw [h]
  rfl
theorem cX_dyn {G : GG} {ad : Nat → Nat} {S : FS} {i : Nat} (h : 71 ≤ i) : cX G ad S i = dynX G ad (fF S i) (fA S i) (fR S i) (fN S i) (fK S i) := by
  unfold cX cellX
  rw [pk_dyn h]
  rfl
theorem cX_0 (G : GG) (ad : Nat → Nat) (S : FS) : cX G ad S 0 = .inr (13, [.ref (ad 1), .ref (ad 9), .ref (ad 10), .ref (ad 11), .ref (ad 57), .ref (ad 61), .ref (ad 62), .ref (ad 63), .ref (ad 64), .int (fF S 0 9), .int (fF S 0 10)]) := rfl
theorem cX_text (G : GG) (ad : Nat → Nat) (S : FS) : cX G ad S 57 = .inr (11, [.ref (ad 58), .int (fF S 57 1), .int (fF S 57 2), .int (fF S 57 3), .int (fF S 57 4), .ref (ad 59), .ref (ad 60), .int (fF S 57 7), .int (fF S 57 8)]) := rfl
