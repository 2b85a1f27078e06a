/-- ===== decode, checked from an instruction's own bytes ===== -/
theorem fk_u1 {c : ByteArray} {p : Nat} {w : UInt8} (h : c.data.toList[p]? = some w) : (Reader.u1 : Decoder Nat) c p = .ok (w.toNat, p + 1) := by
  obtain ⟨hl, hw⟩ := List.getElem?_eq_some_iff.mp h
  have hp : p < c.size := by simpa using hl
  have hw' : c[p] = w := hw
  show ((if h : p < c.size then (do set (p + 1); Pure.pure c[p].toNat) else throw (HasTruncated.truncated p)) : Decoder Nat) c p = _
  rw [dif_pos hp]
  show Except.ok (c[p].toNat, p + 1) = _
  rw [hw']
theorem fk_rd {β γ : Type} {c : ByteArray} {p p' : Nat} {X : Decoder β} {v : β} (hx : X c p = .ok (v, p')) (f : β → Decoder γ) : (X >>= f) c p = f v c p' := by
  have e : (X >>= f) c p = ((X c p) >>= fun x => f x.1 c x.2) := rfl
  rw [e, hx]; rfl
theorem fk_s1 {c : ByteArray} {p : Nat} {w : UInt8} (h : c.data.toList[p]? = some w) : (Reader.s1 : Decoder Int) c p = .ok (Reader.signed 8 w.toNat, p + 1) := by
  have e : (Reader.s1 : Decoder Int) c p = (((Reader.u1 : Decoder Nat) c p) >>= fun x => Pure.pure (Reader.signed 8 x.1, x.2)) := rfl
  rw [e, fk_u1 h]; rfl
theorem fk_u2 {c : ByteArray} {p : Nat} {w w' : UInt8} (h : c.data.toList[p]? = some w) (h' : c.data.toList[p + 1]? = some w') : (Reader.u2 : Decoder Nat) c p = .ok (w.toNat * 256 + w'.toNat, p + 2) := by
  show ((Reader.u1 : Decoder Nat) >>= fun hi => (Reader.u1 : Decoder Nat) >>= fun lo => Pure.pure (hi * 256 + lo)) c p = _
  rw [fk_rd (fk_u1 h), fk_rd (fk_u1 h')]; rfl
theorem fk_s2 {c : ByteArray} {p : Nat} {w w' : UInt8} (h : c.data.toList[p]? = some w) (h' : c.data.toList[p + 1]? = some w') : (Reader.s2 : Decoder Int) c p = .ok (Reader.signed 16 (w.toNat * 256 + w'.toNat), p + 2) := by
  have e : (Reader.s2 : Decoder Int) c p = (((Reader.u2 : Decoder Nat) c p) >>= fun x => Pure.pure (Reader.signed 16 x.1, x.2)) := rfl
  rw [e, fk_u2 h h']; rfl
theorem fk_dec {c : ByteArray} {pc b n : Nat} {i : Instr} {w : UInt8} {F : Nat → Decoder Instr} (hF : Decoder.instr pc = ((Reader.u1 : Decoder Nat) >>= F)) (h : c.data.toList[pc]? = some w) (hb : w.toNat = b) (hr : F b c (pc + 1) = .ok (i, pc + n)) : decode c pc = .ok (i, n) := by
  have e : decode c pc = ((Decoder.instr pc) c pc >>= fun x => Pure.pure (x.1, x.2 - pc)) := rfl
  rw [e, hF, fk_rd (fk_u1 h), hb, hr]
  show Except.ok (i, pc + n - pc) = _
  rw [Nat.add_sub_cancel_left]
/-- the bytes of a row: one, two or three -/
def fk_c0 (s : List UInt8) (b n : Nat) : Bool := match s with
  | w :: _ => Nat.beq w.toNat b && Nat.beq n 1
  | [] => false
def fk_c1 (s : List UInt8) (b v n : Nat) : Bool := match s with
  | w :: a :: _ => Nat.beq w.toNat b && (Nat.beq a.toNat v && Nat.beq n 2)
  | _ => false
def fk_d1 (s : List UInt8) (b : Nat) (v : Int) (n : Nat) : Bool := match s with
  | w :: a :: _ => Nat.beq w.toNat b && (decide (Reader.signed 8 a.toNat = v) && Nat.beq n 2)
  | _ => false
def fk_c2 (s : List UInt8) (b v n : Nat) : Bool := match s with
  | w :: a :: d :: _ => Nat.beq w.toNat b && (Nat.beq (a.toNat * 256 + d.toNat) v && Nat.beq n 3)
  | _ => false
def fk_d2 (s : List UInt8) (b : Nat) (v : Int) (n : Nat) : Bool := match s with
  | w :: a :: d :: _ => Nat.beq w.toNat b && (decide (Reader.signed 16 (a.toNat * 256 + d.toNat) = v) && Nat.beq n 3)
  | _ => false
def fk_ci (s : List UInt8) (v : Nat) (z : Int) (n : Nat) : Bool := match s with
  | w :: a :: d :: _ => Nat.beq w.toNat 132 && (Nat.beq a.toNat v && (decide (Reader.signed 8 d.toNat = z) && Nat.beq n 3))
  | _ => false
theorem fk_at {l s : List UInt8} {p : Nat} (hs : s = l.drop p) (j : Nat) {w : UInt8} (h : s[j]? = some w) : l[p + j]? = some w := by
  rw [hs, List.getElem?_drop] at h; exact h
theorem fk_0 {c : ByteArray} {pc b n : Nat} {i : Instr} {s : List UInt8} {F : Nat → Decoder Instr} (hs : s = c.data.toList.drop pc) (hF : Decoder.instr pc = ((Reader.u1 : Decoder Nat) >>= F)) (hr : F b = Pure.pure i) (h : fk_c0 s b n = true) : decode c pc = .ok (i, n) := by
  match s, hs, h with
  | [], _, h => exact absurd h Bool.false_ne_true
  | w :: r, hs, h =>
    have h' : (Nat.beq w.toNat b && Nat.beq n 1) = true := h
    rw [Bool.and_eq_true, Nat.beq_eq, Nat.beq_eq] at h'
    obtain ⟨h1, h2⟩ := h'
    subst h2
    exact fk_dec hF (fk_at hs 0 rfl) h1 (by rw [hr]; rfl)
theorem fk_1 {c : ByteArray} {pc b n v : Nat} {g : Nat → Instr} {s : List UInt8} {F : Nat → Decoder Instr} (hs : s = c.data.toList.drop pc) (hF : Decoder.instr pc = ((Reader.u1 : Decoder Nat) >>= F)) (hr : F b = ((Reader.u1 : Decoder Nat) >>= fun x => Pure.pure (g x))) (h : fk_c1 s b v n = true) : decode c pc = .ok (g v, n) := by
  match s, hs, h with
  | [], _, h => exact absurd h Bool.false_ne_true
  | [_], _, h => exact absurd h Bool.false_ne_true
  | w :: a :: r, hs, h =>
    have h' : (Nat.beq w.toNat b && (Nat.beq a.toNat v && Nat.beq n 2)) = true := h
    rw [Bool.and_eq_true, Bool.and_eq_true, Nat.beq_eq, Nat.beq_eq, Nat.beq_eq] at h'
    obtain ⟨h1, h2, h3⟩ := h'
    subst h3; subst h2
    exact fk_dec hF (fk_at hs 0 rfl) h1 (by rw [hr, fk_rd (fk_u1 (fk_at hs 1 rfl))]; rfl)
theorem fk_2 {c : ByteArray} {pc b n v : Nat} {g : Nat → Instr} {s : List UInt8} {F : Nat → Decoder Instr} (hs : s = c.data.toList.drop pc) (hF : Decoder.instr pc = ((Reader.u1 : Decoder Nat) >>= F)) (hr : F b = ((Reader.u2 : Decoder Nat) >>= fun x => Pure.pure (g x))) (h : fk_c2 s b v n = true) : decode c pc = .ok (g v, n) := by
  match s, hs, h with
  | [], _, h => exact absurd h Bool.false_ne_true
  | [_], _, h => exact absurd h Bool.false_ne_true
  | [_, _], _, h => exact absurd h Bool.false_ne_true
  | w :: a :: d :: r, hs, h =>
    have h' : (Nat.beq w.toNat b && (Nat.beq (a.toNat * 256 + d.toNat) v && Nat.beq n 3)) = true := h
    rw [Bool.and_eq_true, Bool.and_eq_true, Nat.beq_eq, Nat.beq_eq, Nat.beq_eq] at h'
    obtain ⟨h1, h2, h3⟩ := h'
    subst h3; subst h2
    exact fk_dec hF (fk_at hs 0 rfl) h1 (by rw [hr, fk_rd (fk_u2 (fk_at hs 1 rfl) (fk_at hs 2 rfl))]; rfl)
theorem fk_1s {c : ByteArray} {pc b n : Nat} {v : Int} {g : Int → Instr} {s : List UInt8} {F : Nat → Decoder Instr} (hs : s = c.data.toList.drop pc) (hF : Decoder.instr pc = ((Reader.u1 : Decoder Nat) >>= F)) (hr : F b = ((Reader.s1 : Decoder Int) >>= fun x => Pure.pure (g x))) (h : fk_d1 s b v n = true) : decode c pc = .ok (g v, n) := by
  match s, hs, h with
  | [], _, h => exact absurd h Bool.false_ne_true
  | [_], _, h => exact absurd h Bool.false_ne_true
  | w :: a :: r, hs, h =>
    have h' : (Nat.beq w.toNat b && (decide (Reader.signed 8 a.toNat = v) && Nat.beq n 2)) = true := h
    rw [Bool.and_eq_true, Bool.and_eq_true, Nat.beq_eq, Nat.beq_eq, decide_eq_true_iff] at h'
    obtain ⟨h1, h2, h3⟩ := h'
    subst h3; subst h2
    exact fk_dec hF (fk_at hs 0 rfl) h1 (by rw [hr, fk_rd (fk_s1 (fk_at hs 1 rfl))]; rfl)
theorem fk_2s {c : ByteArray} {pc b n : Nat} {v : Int} {g : Int → Instr} {s : List UInt8} {F : Nat → Decoder Instr} (hs : s = c.data.toList.drop pc) (hF : Decoder.instr pc = ((Reader.u1 : Decoder Nat) >>= F)) (hr : F b = ((Reader.s2 : Decoder Int) >>= fun x => Pure.pure (g x))) (h : fk_d2 s b v n = true) : decode c pc = .ok (g v, n) := by
  match s, hs, h with
  | [], _, h => exact absurd h Bool.false_ne_true
  | [_], _, h => exact absurd h Bool.false_ne_true
  | [_, _], _, h => exact absurd h Bool.false_ne_true
  | w :: a :: d :: r, hs, h =>
    have h' : (Nat.beq w.toNat b && (decide (Reader.signed 16 (a.toNat * 256 + d.toNat) = v) && Nat.beq n 3)) = true := h
    rw [Bool.and_eq_true, Bool.and_eq_true, Nat.beq_eq, Nat.beq_eq, decide_eq_true_iff] at h'
    obtain ⟨h1, h2, h3⟩ := h'
    subst h3; subst h2
    exact fk_dec hF (fk_at hs 0 rfl) h1 (by rw [hr, fk_rd (fk_s2 (fk_at hs 1 rfl) (fk_at hs 2 rfl))]; rfl)
theorem fk_i {c : ByteArray} {pc n v : Nat} {z : Int} {s : List UInt8} {F : Nat → Decoder Instr} (hs : s = c.data.toList.drop pc) (hF : Decoder.instr pc = ((Reader.u1 : Decoder Nat) >>= F)) (hr : F 132 = ((Reader.u1 : Decoder Nat) >>= fun x => (Reader.s1 : Decoder Int) >>= fun y => Pure.pure (.iinc x y))) (h : fk_ci s v z n = true) : decode c pc = .ok (.iinc v z, n) := by
  match s, hs, h with
  | [], _, h => exact absurd h Bool.false_ne_true
  | [_], _, h => exact absurd h Bool.false_ne_true
  | [_, _], _, h => exact absurd h Bool.false_ne_true
  | w :: a :: d :: r, hs, h =>
    have h' : (Nat.beq w.toNat 132 && (Nat.beq a.toNat v && (decide (Reader.signed 8 d.toNat = z) && Nat.beq n 3))) = true := h
    rw [Bool.and_eq_true, Bool.and_eq_true, Bool.and_eq_true, Nat.beq_eq, Nat.beq_eq, Nat.beq_eq, decide_eq_true_iff] at h'
    obtain ⟨h1, h2, h3, h4⟩ := h'
    subst h4; subst h3; subst h2
    exact fk_dec hF (fk_at hs 0 rfl) h1 (by rw [hr, fk_rd (fk_u1 (fk_at hs 1 rfl)), fk_rd (fk_s1 (fk_at hs 2 rfl))]; rfl)
def fk_cn (q : Jvm.ClassFile.Cond) : Nat := match q with
  | .eq => 0
  | .ne => 1
  | .lt => 2
  | .ge => 3
  | .gt => 4
  | .le => 5
def fk_cc (s : List UInt8) (v : Int) (n : Nat) : Bool := match s with
  | w :: _ => (Nat.ble 2 w.toNat && Nat.ble w.toNat 8) && (decide ((w.toNat : Int) = v + 3) && Nat.beq n 1)
  | [] => false
set_option maxHeartbeats 2000000 in
theorem fk_ic {c : ByteArray} {pc n : Nat} {v : Int} {s : List UInt8} (hs : s = c.data.toList.drop pc) (h : fk_cc s v n = true) : decode c pc = .ok (.iconst v, n) := by
  match s, hs, h with
  | [], _, h => exact absurd h Bool.false_ne_true
  | w :: r, hs, h =>
    have h' : ((Nat.ble 2 w.toNat && Nat.ble w.toNat 8) && (decide ((w.toNat : Int) = v + 3) && Nat.beq n 1)) = true := h
    rw [Bool.and_eq_true, Bool.and_eq_true, Bool.and_eq_true, Nat.ble_eq, Nat.ble_eq, Nat.beq_eq, decide_eq_true_iff] at h'
    obtain ⟨⟨h1, h2⟩, h3, h4⟩ := h'
    subst h4
    rcases (by omega : w.toNat = 2 ∨ w.toNat = 3 ∨ w.toNat = 4 ∨ w.toNat = 5 ∨ w.toNat = 6 ∨ w.toNat = 7 ∨ w.toNat = 8) with e | e | e | e | e | e | e
    · obtain rfl : v = -1 := by omega
      exact fk_dec (b := 2) rfl (fk_at hs 0 rfl) e rfl
    · obtain rfl : v = 0 := by omega
      exact fk_dec (b := 3) rfl (fk_at hs 0 rfl) e rfl
    · obtain rfl : v = 1 := by omega
      exact fk_dec (b := 4) rfl (fk_at hs 0 rfl) e rfl
    · obtain rfl : v = 2 := by omega
      exact fk_dec (b := 5) rfl (fk_at hs 0 rfl) e rfl
    · obtain rfl : v = 3 := by omega
      exact fk_dec (b := 6) rfl (fk_at hs 0 rfl) e rfl
    · obtain rfl : v = 4 := by omega
      exact fk_dec (b := 7) rfl (fk_at hs 0 rfl) e rfl
    · obtain rfl : v = 5 := by omega
      exact fk_dec (b := 8) rfl (fk_at hs 0 rfl) e rfl
/-- an instruction against the bytes that begin at it -/
def fk_c (s : List UInt8) (i : Instr) (n : Nat) : Bool := match i with
  | .aaload => fk_c0 s 50 n
  | .aastore => fk_c0 s 83 n
  | .aconst_null => fk_c0 s 1 n
  | .areturn => fk_c0 s 176 n
  | .arraylength => fk_c0 s 190 n
  | .baload => fk_c0 s 51 n
  | .bastore => fk_c0 s 84 n
  | .dup => fk_c0 s 89 n
  | .dup_x1 => fk_c0 s 90 n
  | .dup2 => fk_c0 s 92 n
  | .i2b => fk_c0 s 145 n
  | .i2c => fk_c0 s 146 n
  | .i2l => fk_c0 s 133 n
  | .i2s => fk_c0 s 147 n
  | .iadd => fk_c0 s 96 n
  | .iaload => fk_c0 s 46 n
  | .iand => fk_c0 s 126 n
  | .iastore => fk_c0 s 79 n
  | .idiv => fk_c0 s 108 n
  | .imul => fk_c0 s 104 n
  | .ineg => fk_c0 s 116 n
  | .ior => fk_c0 s 128 n
  | .irem => fk_c0 s 112 n
  | .ireturn => fk_c0 s 172 n
  | .ishl => fk_c0 s 120 n
  | .ishr => fk_c0 s 122 n
  | .isub => fk_c0 s 100 n
  | .iushr => fk_c0 s 124 n
  | .ixor => fk_c0 s 130 n
  | .l2i => fk_c0 s 136 n
  | .ladd => fk_c0 s 97 n
  | .laload => fk_c0 s 47 n
  | .lastore => fk_c0 s 80 n
  | .lcmp => fk_c0 s 148 n
  | .lreturn => fk_c0 s 173 n
  | .pop => fk_c0 s 87 n
  | .pop2 => fk_c0 s 88 n
  | .return_ => fk_c0 s 177 n
  | .aload v => fk_c1 s 25 v n
  | .astore v => fk_c1 s 58 v n
  | .iload v => fk_c1 s 21 v n
  | .istore v => fk_c1 s 54 v n
  | .lload v => fk_c1 s 22 v n
  | .lstore v => fk_c1 s 55 v n
  | .ldc v => fk_c1 s 18 v n
  | .getfield v => fk_c2 s 180 v n
  | .putfield v => fk_c2 s 181 v n
  | .getstatic v => fk_c2 s 178 v n
  | .invokevirtual v => fk_c2 s 182 v n
  | .invokespecial v => fk_c2 s 183 v n
  | .invokestatic v => fk_c2 s 184 v n
  | .new v => fk_c2 s 187 v n
  | .anewarray v => fk_c2 s 189 v n
  | .checkcast v => fk_c2 s 192 v n
  | .instanceof v => fk_c2 s 193 v n
  | .ldc_w v => fk_c2 s 19 v n
  | .ldc2_w v => fk_c2 s 20 v n
  | .bipush v => fk_d1 s 16 v n
  | .sipush v => fk_d2 s 17 v n
  | .goto v => fk_d2 s 167 v n
  | .ifnull v => fk_d2 s 198 v n
  | .ifnonnull v => fk_d2 s 199 v n
  | .aload_n v => fk_c0 s (42 + v.val) n
  | .astore_n v => fk_c0 s (75 + v.val) n
  | .iload_n v => fk_c0 s (26 + v.val) n
  | .istore_n v => fk_c0 s (59 + v.val) n
  | .lload_n v => fk_c0 s (30 + v.val) n
  | .lstore_n v => fk_c0 s (63 + v.val) n
  | .lconst v => fk_c0 s (9 + v.val) n
  | .iinc v z => fk_ci s v z n
  | .ifCond q v => fk_d2 s (153 + fk_cn q) v n
  | .if_icmp q v => fk_d2 s (159 + fk_cn q) v n
  | .iconst v => fk_cc s v n
  | _ => false
set_option maxHeartbeats 4000000 in
set_option maxRecDepth 8000 in
theorem fk_ok {c : ByteArray} {pc n : Nat} {s : List UInt8} (hs : s = c.data.toList.drop pc) (i : Instr) (h : fk_c s i n = true) : decode c pc = .ok (i, n) := by
  cases i with
  | aaload => exact fk_0 (b := 50) hs rfl rfl h
  | aastore => exact fk_0 (b := 83) hs rfl rfl h
  | aconst_null => exact fk_0 (b := 1) hs rfl rfl h
  | areturn => exact fk_0 (b := 176) hs rfl rfl h
  | arraylength => exact fk_0 (b := 190) hs rfl rfl h
  | baload => exact fk_0 (b := 51) hs rfl rfl h
  | bastore => exact fk_0 (b := 84) hs rfl rfl h
  | dup => exact fk_0 (b := 89) hs rfl rfl h
  | dup_x1 => exact fk_0 (b := 90) hs rfl rfl h
  | dup2 => exact fk_0 (b := 92) hs rfl rfl h
  | i2b => exact fk_0 (b := 145) hs rfl rfl h
  | i2c => exact fk_0 (b := 146) hs rfl rfl h
  | i2l => exact fk_0 (b := 133) hs rfl rfl h
  | i2s => exact fk_0 (b := 147) hs rfl rfl h
  | iadd => exact fk_0 (b := 96) hs rfl rfl h
  | iaload => exact fk_0 (b := 46) hs rfl rfl h
  | iand => exact fk_0 (b := 126) hs rfl rfl h
  | iastore => exact fk_0 (b := 79) hs rfl rfl h
  | idiv => exact fk_0 (b := 108) hs rfl rfl h
  | imul => exact fk_0 (b := 104) hs rfl rfl h
  | ineg => exact fk_0 (b := 116) hs rfl rfl h
  | ior => exact fk_0 (b := 128) hs rfl rfl h
  | irem => exact fk_0 (b := 112) hs rfl rfl h
  | ireturn => exact fk_0 (b := 172) hs rfl rfl h
  | ishl => exact fk_0 (b := 120) hs rfl rfl h
  | ishr => exact fk_0 (b := 122) hs rfl rfl h
  | isub => exact fk_0 (b := 100) hs rfl rfl h
  | iushr => exact fk_0 (b := 124) hs rfl rfl h
  | ixor => exact fk_0 (b := 130) hs rfl rfl h
  | l2i => exact fk_0 (b := 136) hs rfl rfl h
  | ladd => exact fk_0 (b := 97) hs rfl rfl h
  | laload => exact fk_0 (b := 47) hs rfl rfl h
  | lastore => exact fk_0 (b := 80) hs rfl rfl h
  | lcmp => exact fk_0 (b := 148) hs rfl rfl h
  | lreturn => exact fk_0 (b := 173) hs rfl rfl h
  | pop => exact fk_0 (b := 87) hs rfl rfl h
  | pop2 => exact fk_0 (b := 88) hs rfl rfl h
  | return_ => exact fk_0 (b := 177) hs rfl rfl h
  | aload v => exact fk_1 (b := 25) (g := .aload) hs rfl rfl h
  | astore v => exact fk_1 (b := 58) (g := .astore) hs rfl rfl h
  | iload v => exact fk_1 (b := 21) (g := .iload) hs rfl rfl h
  | istore v => exact fk_1 (b := 54) (g := .istore) hs rfl rfl h
  | lload v => exact fk_1 (b := 22) (g := .lload) hs rfl rfl h
  | lstore v => exact fk_1 (b := 55) (g := .lstore) hs rfl rfl h
  | ldc v => exact fk_1 (b := 18) (g := .ldc) hs rfl rfl h
  | getfield v => exact fk_2 (b := 180) (g := .getfield) hs rfl rfl h
  | putfield v => exact fk_2 (b := 181) (g := .putfield) hs rfl rfl h
  | getstatic v => exact fk_2 (b := 178) (g := .getstatic) hs rfl rfl h
  | invokevirtual v => exact fk_2 (b := 182) (g := .invokevirtual) hs rfl rfl h
  | invokespecial v => exact fk_2 (b := 183) (g := .invokespecial) hs rfl rfl h
  | invokestatic v => exact fk_2 (b := 184) (g := .invokestatic) hs rfl rfl h
  | new v => exact fk_2 (b := 187) (g := .new) hs rfl rfl h
  | anewarray v => exact fk_2 (b := 189) (g := .anewarray) hs rfl rfl h
  | checkcast v => exact fk_2 (b := 192) (g := .checkcast) hs rfl rfl h
  | instanceof v => exact fk_2 (b := 193) (g := .instanceof) hs rfl rfl h
  | ldc_w v => exact fk_2 (b := 19) (g := .ldc_w) hs rfl rfl h
  | ldc2_w v => exact fk_2 (b := 20) (g := .ldc2_w) hs rfl rfl h
  | bipush v => exact fk_1s (b := 16) (g := .bipush) hs rfl rfl h
  | sipush v => exact fk_2s (b := 17) (g := .sipush) hs rfl rfl h
  | goto v => exact fk_2s (b := 167) (g := .goto) hs rfl rfl h
  | ifnull v => exact fk_2s (b := 198) (g := .ifnull) hs rfl rfl h
  | ifnonnull v => exact fk_2s (b := 199) (g := .ifnonnull) hs rfl rfl h
  | aload_n v => 
    obtain ⟨j, hj⟩ := v
    match j, hj, h with
    | 0, _, h => exact fk_0 (b := 42) hs rfl rfl h
    | 1, _, h => exact fk_0 (b := 43) hs rfl rfl h
    | 2, _, h => exact fk_0 (b := 44) hs rfl rfl h
    | 3, _, h => exact fk_0 (b := 45) hs rfl rfl h
    | j + 4, hj, _ => exact absurd hj (by omega)
  | astore_n v => 
    obtain ⟨j, hj⟩ := v
    match j, hj, h with
    | 0, _, h => exact fk_0 (b := 75) hs rfl rfl h
    | 1, _, h => exact fk_0 (b := 76) hs rfl rfl h
    | 2, _, h => exact fk_0 (b := 77) hs rfl rfl h
    | 3, _, h => exact fk_0 (b := 78) hs rfl rfl h
    | j + 4, hj, _ => exact absurd hj (by omega)
  | iload_n v => 
    obtain ⟨j, hj⟩ := v
    match j, hj, h with
    | 0, _, h => exact fk_0 (b := 26) hs rfl rfl h
    | 1, _, h => exact fk_0 (b := 27) hs rfl rfl h
    | 2, _, h => exact fk_0 (b := 28) hs rfl rfl h
    | 3, _, h => exact fk_0 (b := 29) hs rfl rfl h
    | j + 4, hj, _ => exact absurd hj (by omega)
  | istore_n v => 
    obtain ⟨j, hj⟩ := v
    match j, hj, h with
    | 0, _, h => exact fk_0 (b := 59) hs rfl rfl h
    | 1, _, h => exact fk_0 (b := 60) hs rfl rfl h
    | 2, _, h => exact fk_0 (b := 61) hs rfl rfl h
    | 3, _, h => exact fk_0 (b := 62) hs rfl rfl h
    | j + 4, hj, _ => exact absurd hj (by omega)
  | lload_n v => 
    obtain ⟨j, hj⟩ := v
    match j, hj, h with
    | 0, _, h => exact fk_0 (b := 30) hs rfl rfl h
    | 1, _, h => exact fk_0 (b := 31) hs rfl rfl h
    | 2, _, h => exact fk_0 (b := 32) hs rfl rfl h
    | 3, _, h => exact fk_0 (b := 33) hs rfl rfl h
    | j + 4, hj, _ => exact absurd hj (by omega)
  | lstore_n v => 
    obtain ⟨j, hj⟩ := v
    match j, hj, h with
    | 0, _, h => exact fk_0 (b := 63) hs rfl rfl h
    | 1, _, h => exact fk_0 (b := 64) hs rfl rfl h
    | 2, _, h => exact fk_0 (b := 65) hs rfl rfl h
    | 3, _, h => exact fk_0 (b := 66) hs rfl rfl h
    | j + 4, hj, _ => exact absurd hj (by omega)
  | lconst v => 
    obtain ⟨j, hj⟩ := v
    match j, hj, h with
    | 0, _, h => exact fk_0 (b := 9) hs rfl rfl h
    | 1, _, h => exact fk_0 (b := 10) hs rfl rfl h
    | j + 2, hj, _ => exact absurd hj (by omega)
  | iinc v z => exact fk_i hs rfl rfl h
  | ifCond q v => 
    match q, h with
    | .eq, h => exact fk_2s (b := 153) (g := .ifCond .eq) hs rfl rfl h
    | .ne, h => exact fk_2s (b := 154) (g := .ifCond .ne) hs rfl rfl h
    | .lt, h => exact fk_2s (b := 155) (g := .ifCond .lt) hs rfl rfl h
    | .ge, h => exact fk_2s (b := 156) (g := .ifCond .ge) hs rfl rfl h
    | .gt, h => exact fk_2s (b := 157) (g := .ifCond .gt) hs rfl rfl h
    | .le, h => exact fk_2s (b := 158) (g := .ifCond .le) hs rfl rfl h
  | if_icmp q v => 
    match q, h with
    | .eq, h => exact fk_2s (b := 159) (g := .if_icmp .eq) hs rfl rfl h
    | .ne, h => exact fk_2s (b := 160) (g := .if_icmp .ne) hs rfl rfl h
    | .lt, h => exact fk_2s (b := 161) (g := .if_icmp .lt) hs rfl rfl h
    | .ge, h => exact fk_2s (b := 162) (g := .if_icmp .ge) hs rfl rfl h
    | .gt, h => exact fk_2s (b := 163) (g := .if_icmp .gt) hs rfl rfl h
    | .le, h => exact fk_2s (b := 164) (g := .if_icmp .le) hs rfl rfl h
  | iconst v => exact fk_ic hs h
  | _ => exact absurd h Bool.false_ne_true
/-- rows of a code from p on -/
def fkL (c : ByteArray) (p : Nat) (L : List (Nat × Instr × Nat)) : Bool := L.all (fun r => Nat.ble p r.1 && fk_c ((c.data.toList.drop p).drop (r.1 - p)) r.2.1 r.2.2)
theorem fk_get {c : ByteArray} {p : Nat} {L : List (Nat × Instr × Nat)} (h : fkL c p L = true) (k : Nat) {pc n : Nat} {i : Instr} (e : L[k]? = some (pc, i, n)) : decode c pc = .ok (i, n) := by
  have h1 : (Nat.ble p pc && fk_c ((c.data.toList.drop p).drop (pc - p)) i n) = true := List.all_eq_true.mp h (pc, i, n) (List.mem_of_getElem? e)
  rw [Bool.and_eq_true, Nat.ble_eq] at h1
  refine fk_ok ?_ i h1.2
  rw [List.drop_drop, Nat.add_sub_cancel' h1.1]
