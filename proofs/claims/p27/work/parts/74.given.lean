theorem t_congr {ty : FieldType} {t N : Nat} {f g : Nat → Value} {A : Nat → Prop} {U : State} {H : Heap} (h : va_T ty t N f A U H) (e : ∀ j, j < N → g j = f j) : va_T ty t N g A U H := by
  obtain ⟨cell, a, b, c, d, e1, k, n⟩ := h
  exact ⟨cell, a, b, c, d, e1, fun j hj => by rw [e j hj]; exact k j hj, n⟩
theorem c_congr {ad ad' : Nat → Nat} {A : Nat → Prop} {U : State} {H : Heap} (h : vb_C ad A U H) (e : ∀ j, j < 256 → ad' j = ad j) : vb_C ad' A U H := ⟨fun k hk => by rw [e k hk]; exact h.1 k hk, fun k hk => by
  show va_OF _ _ _ _ (ad' k) _ _ _
  rw [e k hk]
  exact h.2 k hk⟩
theorem s_congr {N : Nat} {len : List Nat} {byt : List (List Int32)} {k v k' v' : Nat → Nat} {A : Nat → Prop} {U : State} {H : Heap} (h : vk_S N len byt k v A U H) (e : ∀ i, i < N → k' i = k i) (e2 : ∀ i, i < N → v' i = v i) : vk_S N len byt k' v' A U H := ⟨fun i hi => by rw [e i hi, e2 i hi]; exact h.1 i hi, fun i j hi hj q => h.2 i j hi hj (by rw [← e i hi, ← e j hj]; exact q)⟩
theorem ty_p {args : Array Value} {s : State} {t : FieldType} (h : (Cond.arrayClass t).before args s = true) (ho : ∀ C, t ≠ .object C) : ∃ c : ClassId, ArrOfT s c t ∧ va_RA s c t := by
  obtain ⟨c, k, comp, h1, h2, h3⟩ := Cond.arrayClass_spec h
  have ha : ArrOfT s c t := fun N z => ⟨(fun q hq => by cases hq), k, h2, comp, h3⟩
  refine ⟨c, ha, ?_⟩
  cases t with
  | object C => exact absurd rfl (ho C)
  | _ => exact h1
theorem ty_o {args : Array Value} {s : State} {C : String} (h : (Cond.arrayOver (.object C)).before args s = true) : ∃ c : ClassId, ArrOfT s c (.object C) ∧ va_RA s c (.object C) := by
  obtain ⟨comp, c, k, h1, h2, h3, h4, h5⟩ := Cond.arrayOver_spec h
  exact ⟨c, fun N z => ⟨(fun q hq => by cases hq), k, h3, comp, h4⟩, k, comp, h3, h4, h1, h5⟩
theorem ty_a {args : Array Value} {s : State} {t : FieldType} (h : (Cond.arrayOver (.array t)).before args s = true) : ∃ c : ClassId, ArrOfT s c (.array t) ∧ va_RA s c (.array t) := by
  obtain ⟨comp, c, k, h1, h2, h3, h4, h5⟩ := Jvm.Stand.arrayOver_specB h
  exact ⟨c, fun N z => ⟨(fun q hq => by cases hq), k, h3, comp, h4⟩, h5⟩
set_option maxHeartbeats 4000000 in
set_option maxRecDepth 100000 in
theorem en_s {s : State} {b : Nat} (hs : ∀ c ∈ flatC (Jvm.Cond.and given_1 narrow_1), c.before #[Value.ref b] s = true) : ∃ adK adV : Nat → Nat, vk_S 6 lenS bytS adK adV (AL s) s s.heap ∧ ∀ i : Nat, i < 6 → (Term.string "LittleMore$Text" (ixS i)).eval #[Value.ref b] s none [] s = some (.ref (adK i)) := by
  refine vk_Sof (tm := fun i => Term.string "LittleMore$Text" (ixS i)) (fun i hi => ?_) (fun i hi => ?_) (fun i hi => ?_) (fun i hi => ?_) (fun i hi => ?_) (fun i hi j hj => ?_) (fun i j hi hj hij => ?_) (fun a ha => Nat.not_le.mpr ha)
  · rcases (show i = 0 ∨ i = 1 ∨ i = 2 ∨ i = 3 ∨ i = 4 ∨ i = 5 by omega) with rfl | rfl | rfl | rfl | rfl | rfl <;> decide
  · rcases (show i = 0 ∨ i = 1 ∨ i = 2 ∨ i = 3 ∨ i = 4 ∨ i = 5 by omega) with rfl | rfl | rfl | rfl | rfl | rfl
    · exact (hs _ (List.mem_of_getElem? (i := 184) (by decide +kernel)))
    · exact (hs _ (List.mem_of_getElem? (i := 192) (by decide +kernel)))
    · exact (hs _ (List.mem_of_getElem? (i := 201) (by decide +kernel)))
    · exact (hs _ (List.mem_of_getElem? (i := 212) (by decide +kernel)))
    · exact (hs _ (List.mem_of_getElem? (i := 224) (by decide +kernel)))
    · exact (hs _ (List.mem_of_getElem? (i := 238) (by decide +kernel)))
  · rcases (show i = 0 ∨ i = 1 ∨ i = 2 ∨ i = 3 ∨ i = 4 ∨ i = 5 by omega) with rfl | rfl | rfl | rfl | rfl | rfl
    · exact (hs _ (List.mem_of_getElem? (i := 185) (by decide +kernel)))
    · exact (hs _ (List.mem_of_getElem? (i := 193) (by decide +kernel)))
    · exact (hs _ (List.mem_of_getElem? (i := 202) (by decide +kernel)))
    · exact (hs _ (List.mem_of_getElem? (i := 213) (by decide +kernel)))
    · exact (hs _ (List.mem_of_getElem? (i := 225) (by decide +kernel)))
    · exact (hs _ (List.mem_of_getElem? (i := 239) (by decide +kernel)))
  · rcases (show i = 0 ∨ i = 1 ∨ i = 2 ∨ i = 3 ∨ i = 4 ∨ i = 5 by omega) with rfl | rfl | rfl | rfl | rfl | rfl
    · exact (hs _ (List.mem_of_getElem? (i := 186) (by decide +kernel)))
    · exact (hs _ (List.mem_of_getElem? (i := 194) (by decide +kernel)))
    · exact (hs _ (List.mem_of_getElem? (i := 203) (by decide +kernel)))
    · exact (hs _ (List.mem_of_getElem? (i := 214) (by decide +kernel)))
    · exact (hs _ (List.mem_of_getElem? (i := 226) (by decide +kernel)))
    · exact (hs _ (List.mem_of_getElem? (i := 240) (by decide +kernel)))
  · rcases (show i = 0 ∨ i = 1 ∨ i = 2 ∨ i = 3 ∨ i = 4 ∨ i = 5 by omega) with rfl | rfl | rfl | rfl | rfl | rfl
    · exact (hs _ (List.mem_of_getElem? (i := 187) (by decide +kernel)))
    · exact (hs _ (List.mem_of_getElem? (i := 195) (by decide +kernel)))
    · exact (hs _ (List.mem_of_getElem? (i := 204) (by decide +kernel)))
    · exact (hs _ (List.mem_of_getElem? (i := 215) (by decide +kernel)))
    · exact (hs _ (List.mem_of_getElem? (i := 227) (by decide +kernel)))
    · exact (hs _ (List.mem_of_getElem? (i := 241) (by decide +kernel)))
  · rcases (show i = 0 ∨ i = 1 ∨ i = 2 ∨ i = 3 ∨ i = 4 ∨ i = 5 by omega) with rfl | rfl | rfl | rfl | rfl | rfl
    · rcases (show j = 0 ∨ j = 1 ∨ j = 2 ∨ j = 3 by exact (show ∀ j, j < 4 → (j = 0 ∨ j = 1 ∨ j = 2 ∨ j = 3) by omega) j hj) with rfl | rfl | rfl | rfl
      · exact (hs _ (List.mem_of_getElem? (i := 188) (by decide +kernel)))
      · exact (hs _ (List.mem_of_getElem? (i := 189) (by decide +kernel)))
      · exact (hs _ (List.mem_of_getElem? (i := 190) (by decide +kernel)))
      · exact (hs _ (List.mem_of_getElem? (i := 191) (by decide +kernel)))
    · rcases (show j = 0 ∨ j = 1 ∨ j = 2 ∨ j = 3 by exact (show ∀ j, j < 4 → (j = 0 ∨ j = 1 ∨ j = 2 ∨ j = 3) by omega) j hj) with rfl | rfl | rfl | rfl
      · exact (hs _ (List.mem_of_getElem? (i := 196) (by decide +kernel)))
      · exact (hs _ (List.mem_of_getElem? (i := 197) (by decide +kernel)))
      · exact (hs _ (List.mem_of_getElem? (i := 198) (by decide +kernel)))
      · exact (hs _ (List.mem_of_getElem? (i := 199) (by decide +kernel)))
    · rcases (show j = 0 ∨ j = 1 ∨ j = 2 ∨ j = 3 ∨ j = 4 by exact (show ∀ j, j < 5 → (j = 0 ∨ j = 1 ∨ j = 2 ∨ j = 3 ∨ j = 4) by omega) j hj) with rfl | rfl | rfl | rfl | rfl
      · exact (hs _ (List.mem_of_getElem? (i := 205) (by decide +kernel)))
      · exact (hs _ (List.mem_of_getElem? (i := 206) (by decide +kernel)))
      · exact (hs _ (List.mem_of_getElem? (i := 207) (by decide +kernel)))
      · exact (hs _ (List.mem_of_getElem? (i := 208) (by decide +kernel)))
      · exact (hs _ (List.mem_of_getElem? (i := 209) (by decide +kernel)))
    · rcases (show j = 0 ∨ j = 1 ∨ j = 2 ∨ j = 3 ∨ j = 4 by exact (show ∀ j, j < 5 → (j = 0 ∨ j = 1 ∨ j = 2 ∨ j = 3 ∨ j = 4) by omega) j hj) with rfl | rfl | rfl | rfl | rfl
      · exact (hs _ (List.mem_of_getElem? (i := 216) (by decide +kernel)))
      · exact (hs _ (List.mem_of_getElem? (i := 217) (by decide +kernel)))
      · exact (hs _ (List.mem_of_getElem? (i := 218) (by decide +kernel)))
      · exact (hs _ (List.mem_of_getElem? (i := 219) (by decide +kernel)))
      · exact (hs _ (List.mem_of_getElem? (i := 220) (by decide +kernel)))
    · rcases (show j = 0 ∨ j = 1 ∨ j = 2 ∨ j = 3 ∨ j = 4 ∨ j = 5 by exact (show ∀ j, j < 6 → (j = 0 ∨ j = 1 ∨ j = 2 ∨ j = 3 ∨ j = 4 ∨ j = 5) by omega) j hj) with rfl | rfl | rfl | rfl | rfl | rfl
      · exact (hs _ (List.mem_of_getElem? (i := 228) (by decide +kernel)))
      · exact (hs _ (List.mem_of_getElem? (i := 229) (by decide +kernel)))
      · exact (hs _ (List.mem_of_getElem? (i := 230) (by decide +kernel)))
      · exact (hs _ (List.mem_of_getElem? (i := 231) (by decide +kernel)))
      · exact (hs _ (List.mem_of_getElem? (i := 232) (by decide +kernel)))
      · exact (hs _ (List.mem_of_getElem? (i := 233) (by decide +kernel)))
    · rcases (show j = 0 ∨ j = 1 ∨ j = 2 by exact (show ∀ j, j < 3 → (j = 0 ∨ j = 1 ∨ j = 2) by omega) j hj) with rfl | rfl | rfl
      · exact (hs _ (List.mem_of_getElem? (i := 242) (by decide +kernel)))
      · exact (hs _ (List.mem_of_getElem? (i := 243) (by decide +kernel)))
      · exact (hs _ (List.mem_of_getElem? (i := 244) (by decide +kernel)))
  · rcases (show i = 0 ∨ i = 1 ∨ i = 2 ∨ i = 3 ∨ i = 4 ∨ i = 5 by omega) with rfl | rfl | rfl | rfl | rfl | rfl
    · rcases (show j = 0 ∨ j = 1 ∨ j = 2 ∨ j = 3 ∨ j = 4 ∨ j = 5 by omega) with rfl | rfl | rfl | rfl | rfl | rfl
      · exact absurd rfl hij
      · exact Or.inl (hs _ (List.mem_of_getElem? (i := 200) (by decide +kernel)))
      · exact Or.inl (hs _ (List.mem_of_getElem? (i := 210) (by decide +kernel)))
      · exact Or.inl (hs _ (List.mem_of_getElem? (i := 221) (by decide +kernel)))
      · exact Or.inl (hs _ (List.mem_of_getElem? (i := 234) (by decide +kernel)))
      · exact Or.inl (hs _ (List.mem_of_getElem? (i := 245) (by decide +kernel)))
    · rcases (show j = 0 ∨ j = 1 ∨ j = 2 ∨ j = 3 ∨ j = 4 ∨ j = 5 by omega) with rfl | rfl | rfl | rfl | rfl | rfl
      · exact Or.inr (hs _ (List.mem_of_getElem? (i := 200) (by decide +kernel)))
      · exact absurd rfl hij
      · exact Or.inl (hs _ (List.mem_of_getElem? (i := 211) (by decide +kernel)))
      · exact Or.inl (hs _ (List.mem_of_getElem? (i := 222) (by decide +kernel)))
      · exact Or.inl (hs _ (List.mem_of_getElem? (i := 235) (by decide +kernel)))
      · exact Or.inl (hs _ (List.mem_of_getElem? (i := 246) (by decide +kernel)))
    · rcases (show j = 0 ∨ j = 1 ∨ j = 2 ∨ j = 3 ∨ j = 4 ∨ j = 5 by omega) with rfl | rfl | rfl | rfl | rfl | rfl
      · exact Or.inr (hs _ (List.mem_of_getElem? (i := 210) (by decide +kernel)))
      · exact Or.inr (hs _ (List.mem_of_getElem? (i := 211) (by decide +kernel)))
      · exact absurd rfl hij
      · exact Or.inl (hs _ (List.mem_of_getElem? (i := 223) (by decide +kernel)))
      · exact Or.inl (hs _ (List.mem_of_getElem? (i := 236) (by decide +kernel)))
      · exact Or.inl (hs _ (List.mem_of_getElem? (i := 247) (by decide +kernel)))
    · rcases (show j = 0 ∨ j = 1 ∨ j = 2 ∨ j = 3 ∨ j = 4 ∨ j = 5 by omega) with rfl | rfl | rfl | rfl | rfl | rfl
      · exact Or.inr (hs _ (List.mem_of_getElem? (i := 221) (by decide +kernel)))
      · exact Or.inr (hs _ (List.mem_of_getElem? (i := 222) (by decide +kernel)))
      · exact Or.inr (hs _ (List.mem_of_getElem? (i := 223) (by decide +kernel)))
      · exact absurd rfl hij
      · exact Or.inl (hs _ (List.mem_of_getElem? (i := 237) (by decide +kernel)))
      · exact Or.inl (hs _ (List.mem_of_getElem? (i := 248) (by decide +kernel)))
    · rcases (show j = 0 ∨ j = 1 ∨ j = 2 ∨ j = 3 ∨ j = 4 ∨ j = 5 by omega) with rfl | rfl | rfl | rfl | rfl | rfl
      · exact Or.inr (hs _ (List.mem_of_getElem? (i := 234) (by decide +kernel)))
      · exact Or.inr (hs _ (List.mem_of_getElem? (i := 235) (by decide +kernel)))
      · exact Or.inr (hs _ (List.mem_of_getElem? (i := 236) (by decide +kernel)))
      · exact Or.inr (hs _ (List.mem_of_getElem? (i := 237) (by decide +kernel)))
      · exact absurd rfl hij
      · exact Or.inl (hs _ (List.mem_of_getElem? (i := 249) (by decide +kernel)))
    · rcases (show j = 0 ∨ j = 1 ∨ j = 2 ∨ j = 3 ∨ j = 4 ∨ j = 5 by omega) with rfl | rfl | rfl | rfl | rfl | rfl
      · exact Or.inr (hs _ (List.mem_of_getElem? (i := 245) (by decide +kernel)))
      · exact Or.inr (hs _ (List.mem_of_getElem? (i := 246) (by decide +kernel)))
      · exact Or.inr (hs _ (List.mem_of_getElem? (i := 247) (by decide +kernel)))
      · exact Or.inr (hs _ (List.mem_of_getElem? (i := 248) (by decide +kernel)))
      · exact Or.inr (hs _ (List.mem_of_getElem? (i := 249) (by decide +kernel)))
      · exact absurd rfl hij
theorem kc_1 {s : State} {b : Nat} (hts : ∀ w ∈ lw_tbl, w.before #[Value.ref b] s = true) : ∀ q k, q < 7 → k < 7 → 0 < k → q ≠ k → isK q k = true → va_Nw (.castable (kn q) (kn k)) s := by
  intro q k hq hk h0 hne hi
  rcases kq7 hq with rfl | rfl | rfl | rfl | rfl | rfl | rfl
  · rcases kq7 hk with rfl | rfl | rfl | rfl | rfl | rfl | rfl
    · exact absurd h0 (by decide)
    · exact absurd hi (by decide)
    · exact absurd hi (by decide)
    · exact absurd hi (by decide)
    · exact absurd hi (by decide)
    · exact absurd hi (by decide)
    · exact absurd hi (by decide)
  · rcases kq7 hk with rfl | rfl | rfl | rfl | rfl | rfl | rfl
    · exact absurd h0 (by decide)
    · exact absurd rfl hne
    · exact absurd hi (by decide)
    · exact absurd hi (by decide)
    · exact absurd hi (by decide)
    · exact absurd hi (by decide)
    · exact absurd hi (by decide)
  · rcases kq7 hk with rfl | rfl | rfl | rfl | rfl | rfl | rfl
    · exact absurd h0 (by decide)
    · exact absurd hi (by decide)
    · exact absurd rfl hne
    · exact absurd hi (by decide)
    · exact absurd hi (by decide)
    · exact absurd hi (by decide)
    · exact absurd hi (by decide)
  · rcases kq7 hk with rfl | rfl | rfl | rfl | rfl | rfl | rfl
    · exact absurd h0 (by decide)
    · exact absurd hi (by decide)
    · exact absurd hi (by decide)
    · exact absurd rfl hne
    · exact absurd hi (by decide)
    · exact absurd hi (by decide)
    · exact absurd hi (by decide)
  · rcases kq7 hk with rfl | rfl | rfl | rfl | rfl | rfl | rfl
    · exact absurd h0 (by decide)
    · exact (hts _ l7_185)
    · exact absurd hi (by decide)
    · exact absurd hi (by decide)
    · exact absurd rfl hne
    · exact absurd hi (by decide)
    · exact absurd hi (by decide)
  · rcases kq7 hk with rfl | rfl | rfl | rfl | rfl | rfl | rfl
    · exact absurd h0 (by decide)
    · exact absurd hi (by decide)
    · exact (hts _ l7_186)
    · exact absurd hi (by decide)
    · exact absurd hi (by decide)
    · exact absurd rfl hne
    · exact absurd hi (by decide)
  · rcases kq7 hk with rfl | rfl | rfl | rfl | rfl | rfl | rfl
    · exact absurd h0 (by decide)
    · exact absurd hi (by decide)
    · exact absurd hi (by decide)
    · exact (hts _ l7_187)
    · exact absurd hi (by decide)
    · exact absurd hi (by decide)
    · exact absurd rfl hne
set_option maxHeartbeats 4000000 in
set_option maxRecDepth 100000 in
theorem kc_2 {s : State} {b : Nat} (hs : ∀ c ∈ flatC (Jvm.Cond.and given_1 narrow_1), c.before #[Value.ref b] s = true) : ∀ q k, q < 7 → k < 7 → 0 < k → isK q k = false → va_Nc (kn q) (kn k) s := by
  intro q k hq hk h0 hi
  rcases kq7 hq with rfl | rfl | rfl | rfl | rfl | rfl | rfl
  · rcases kq7 hk with rfl | rfl | rfl | rfl | rfl | rfl | rfl
    · exact absurd h0 (by decide)
    · exact va_Nc.of (hs _ (List.mem_of_getElem? (i := 33) (by decide +kernel)))
    · exact va_Nc.of (hs _ (List.mem_of_getElem? (i := 46) (by decide +kernel)))
    · exact va_Nc.of (hs _ (List.mem_of_getElem? (i := 59) (by decide +kernel)))
    · exact va_Nc.of (hs _ (List.mem_of_getElem? (i := 72) (by decide +kernel)))
    · exact va_Nc.of (hs _ (List.mem_of_getElem? (i := 86) (by decide +kernel)))
    · exact va_Nc.of (hs _ (List.mem_of_getElem? (i := 19) (by decide +kernel)))
  · rcases kq7 hk with rfl | rfl | rfl | rfl | rfl | rfl | rfl
    · exact absurd h0 (by decide)
    · exact absurd hi (by decide)
    · exact va_Nc.of (hs _ (List.mem_of_getElem? (i := 47) (by decide +kernel)))
    · exact va_Nc.of (hs _ (List.mem_of_getElem? (i := 60) (by decide +kernel)))
    · exact va_Nc.of (hs _ (List.mem_of_getElem? (i := 73) (by decide +kernel)))
    · exact va_Nc.of (hs _ (List.mem_of_getElem? (i := 87) (by decide +kernel)))
    · exact va_Nc.of (hs _ (List.mem_of_getElem? (i := 20) (by decide +kernel)))
  · rcases kq7 hk with rfl | rfl | rfl | rfl | rfl | rfl | rfl
    · exact absurd h0 (by decide)
    · exact va_Nc.of (hs _ (List.mem_of_getElem? (i := 34) (by decide +kernel)))
    · exact absurd hi (by decide)
    · exact va_Nc.of (hs _ (List.mem_of_getElem? (i := 61) (by decide +kernel)))
    · exact va_Nc.of (hs _ (List.mem_of_getElem? (i := 74) (by decide +kernel)))
    · exact va_Nc.of (hs _ (List.mem_of_getElem? (i := 88) (by decide +kernel)))
    · exact va_Nc.of (hs _ (List.mem_of_getElem? (i := 21) (by decide +kernel)))
  · rcases kq7 hk with rfl | rfl | rfl | rfl | rfl | rfl | rfl
    · exact absurd h0 (by decide)
    · exact va_Nc.of (hs _ (List.mem_of_getElem? (i := 35) (by decide +kernel)))
    · exact va_Nc.of (hs _ (List.mem_of_getElem? (i := 48) (by decide +kernel)))
    · exact absurd hi (by decide)
    · exact va_Nc.of (hs _ (List.mem_of_getElem? (i := 75) (by decide +kernel)))
    · exact va_Nc.of (hs _ (List.mem_of_getElem? (i := 89) (by decide +kernel)))
    · exact va_Nc.of (hs _ (List.mem_of_getElem? (i := 22) (by decide +kernel)))
  · rcases kq7 hk with rfl | rfl | rfl | rfl | rfl | rfl | rfl
    · exact absurd h0 (by decide)
    · exact absurd hi (by decide)
    · exact va_Nc.of (hs _ (List.mem_of_getElem? (i := 49) (by decide +kernel)))
    · exact va_Nc.of (hs _ (List.mem_of_getElem? (i := 62) (by decide +kernel)))
    · exact absurd hi (by decide)
    · exact va_Nc.of (hs _ (List.mem_of_getElem? (i := 90) (by decide +kernel)))
    · exact va_Nc.of (hs _ (List.mem_of_getElem? (i := 23) (by decide +kernel)))
  · rcases kq7 hk with rfl | rfl | rfl | rfl | rfl | rfl | rfl
    · exact absurd h0 (by decide)
    · exact va_Nc.of (hs _ (List.mem_of_getElem? (i := 36) (by decide +kernel)))
    · exact absurd hi (by decide)
    · exact va_Nc.of (hs _ (List.mem_of_getElem? (i := 63) (by decide +kernel)))
    · exact va_Nc.of (hs _ (List.mem_of_getElem? (i := 76) (by decide +kernel)))
    · exact absurd hi (by decide)
    · exact va_Nc.of (hs _ (List.mem_of_getElem? (i := 24) (by decide +kernel)))
  · rcases kq7 hk with rfl | rfl | rfl | rfl | rfl | rfl | rfl
    · exact absurd h0 (by decide)
    · exact va_Nc.of (hs _ (List.mem_of_getElem? (i := 37) (by decide +kernel)))
    · exact va_Nc.of (hs _ (List.mem_of_getElem? (i := 50) (by decide +kernel)))
    · exact absurd hi (by decide)
    · exact va_Nc.of (hs _ (List.mem_of_getElem? (i := 77) (by decide +kernel)))
    · exact va_Nc.of (hs _ (List.mem_of_getElem? (i := 91) (by decide +kernel)))
    · exact absurd hi (by decide)
set_option maxHeartbeats 4000000 in
set_option maxRecDepth 100000 in
/-- what lies outside, out of what is given -/
theorem en_of {s : State} {b : Nat} (hts : ∀ w ∈ lw_tbl, w.before #[Value.ref b] s = true) (hs : ∀ c ∈ flatC (Jvm.Cond.and given_1 narrow_1), c.before #[Value.ref b] s = true) : ∃ (t : Nat) (ad : Nat → Nat), ∀ (D : va_G) (cA : Nat → ClassId), EN (D, cA, t, ad) (AL s) s s.heap := by
  have hA : ∀ a : Nat, a < s.heap.size → ¬ AL s a := fun a ha => Nat.not_le.mpr ha
  have hT : ∀ w ∈ TBL, w.before #[Value.ref b] s = true := fun w h => hts w (tbl_in w h)
  obtain ⟨t, et, hDt⟩ := va_Tof (tm := .static "java/util/ArrayList" "DEFAULTCAPACITY_EMPTY_ELEMENTDATA" "[Ljava/lang/Object;") (ty := .object "java/lang/Object") (N := 0) (f := fun _ => .null) (by omega) (hs _ (List.mem_of_getElem? (i := 5) (by decide +kernel))) (va_eqt (hs _ (List.mem_of_getElem? (i := 7) (by decide +kernel)))) (fun j hj => absurd hj (by omega)) hA
  obtain ⟨adI, hI, eI⟩ := vb_Cof (st := .static "java/lang/Integer$IntegerCache" "cache" "[Ljava/lang/Integer;") rfl (va_eqt (hs _ (List.mem_of_getElem? (i := 16) (by decide +kernel)))) (hs _ (List.mem_of_getElem? (i := 17) (by decide +kernel))) hA
  obtain ⟨tc, etc, hCt⟩ := va_Tof (tm := .static "java/lang/Integer$IntegerCache" "cache" "[Ljava/lang/Integer;") (ty := .object "java/lang/Integer") (N := 256) (f := fun j => .ref (adI j)) (by omega) (hs _ (List.mem_of_getElem? (i := 15) (by decide +kernel))) (va_eqt (hs _ (List.mem_of_getElem? (i := 16) (by decide +kernel)))) eI hA
  obtain ⟨adK, adV, hSt, eS⟩ := en_s hs
  obtain ⟨mi, hMi⟩ := va_Mi.of (C := "[Ljava/lang/Object;") (hs _ (List.mem_of_getElem? (i := 183) (by decide +kernel)))
  have had : ∃ ad : Nat → Nat, (∀ k, k < 256 → ad k = adI k) ∧ ad 300 = tc ∧ (∀ i, i < 6 → ad (310 + i) = adK i) ∧ (∀ i, i < 6 → ad (320 + i) = adV i) ∧ ad 330 = mi := by
    refine ⟨fun k => if k < 256 then adI k else if k = 300 then tc else if k < 320 then adK (k - 310) else if k < 330 then adV (k - 320) else mi, fun k hk => if_pos hk, rfl, fun i hi => ?_, fun i hi => ?_, rfl⟩
    · show (if 310 + i < 256 then _ else if 310 + i = 300 then tc else if 310 + i < 320 then adK (310 + i - 310) else _) = _
      rw [if_neg (by omega), if_neg (by omega), if_pos (by omega), Nat.add_sub_cancel_left]
    · show (if 320 + i < 256 then _ else if 320 + i = 300 then tc else if 320 + i < 320 then _ else if 320 + i < 330 then adV (320 + i - 320) else _) = _
      rw [if_neg (by omega), if_neg (by omega), if_neg (by omega), if_pos (by omega), Nat.add_sub_cancel_left]
  obtain ⟨ad, h256, h300, h310, h320, h330⟩ := had
  refine ⟨t, ad, fun D cA => ⟨⟨va_Zof (hts _ l2_51) (hT _ m1_15) et hA, hDt⟩, va_Zof (hts _ l3_9) (hT _ m1_19) (va_eqi (hs _ (List.mem_of_getElem? (i := 8) (by decide +kernel)))) hA, va_Zqof (hts _ l3_25) (hT _ m1_21) (hs _ (List.mem_of_getElem? (i := 9) (by decide +kernel))) hA, ⟨va_Zof (hts _ l4_133) (hT _ m1_27) (va_eqi (hs _ (List.mem_of_getElem? (i := 13) (by decide +kernel)))) hA, ?_, ?_, c_congr hI h256⟩, ⟨s_congr hSt h310 h320, fun i hi => ⟨?_, ?_⟩⟩, ⟨kc_1 hts, kc_2 hs, hts _ l7_190, hts _ l3_147, va_AO.of (hts _ l4_199), ?_, va_Dc.of (hts _ l7_212)⟩⟩⟩
  · show va_Z _ _ _ (Value.ref (ad 300)) _ _ _
    rw [h300]
    exact va_Zof (hts _ l4_135) (hT _ m1_27) etc hA
  · show va_T _ (ad 300) 256 (fun j => .ref (ad j)) _ _ _
    rw [h300]
    exact t_congr hCt (fun j hj => by rw [h256 j hj])
  · rcases (show i = 0 ∨ i = 1 ∨ i = 2 ∨ i = 3 ∨ i = 4 ∨ i = 5 by omega) with rfl | rfl | rfl | rfl | rfl | rfl
    · exact hts _ l2_232
    · exact hts _ l2_233
    · exact hts _ l2_234
    · exact hts _ l2_235
    · exact hts _ l3_72
    · exact hts _ l3_134
  · show _ = some (Value.ref (ad (310 + i)))
    rw [h310 i hi]
    exact eS i hi
  · show va_Mi _ (ad 330) _
    rw [h330]
    exact hMi
theorem ao_of {s : State} {b : Nat} (hts : ∀ w ∈ lw_tbl, w.before #[Value.ref b] s = true) : AOS s := by
  refine ⟨va_AO.of (hts _ l1_39), va_AO.of (hts _ l1_106), hts _ l2_65, fun q h0 hq => ?_, hts _ l1_237⟩
  rcases kq7 hq with rfl | rfl | rfl | rfl | rfl | rfl | rfl
  · exact absurd h0 (by decide)
  · exact hts _ l7_204
  · exact hts _ l7_205
  · exact hts _ l7_206
  · exact hts _ l7_207
  · exact hts _ l7_208
  · exact hts _ l7_209
set_option maxHeartbeats 1600000 in
theorem k_of {s : State} {b : Nat} (hts : ∀ w ∈ lw_tbl, w.before #[Value.ref b] s = true) : ∃ (D : va_G) (cA : Nat → ClassId), ∀ (t : Nat) (ad : Nat → Nat), va_K D vwCl (TYS (D, cA, t, ad)) s := by
  have hT : ∀ w ∈ TBL, w.before #[Value.ref b] s = true := fun w h => hts w (tbl_in w h)
  obtain ⟨c0, i0, h0⟩ := u_known (C := RJ6) (T := TJ6) (N := 1) hT inJ6 (hT _ m4_137)
  obtain ⟨c1, i1, h1⟩ := u_known (C := RJx4a65c) (T := TJx4a65c) (N := 3) hT inJx4a65c (hT _ m2_39)
  obtain ⟨c2, i2, h2⟩ := u_known (C := RX0) (T := TX0) (N := 1) hT inX0 (hT _ m1_68)
  obtain ⟨c3, i3, h3⟩ := u_known (C := RX1) (T := TX1) (N := 4) hT inX1 (hT _ m1_108)
  obtain ⟨c4, i4, h4⟩ := u_known (C := RX2) (T := TX2) (N := 1) hT inX2 (hT _ m1_76)
  obtain ⟨c5, i5, h5⟩ := u_known (C := RX3) (T := TX3) (N := 10) hT inX3 (hT _ m1_130)
  obtain ⟨c6, i6, h6⟩ := u_known (C := RX4) (T := TX4) (N := 1) hT inX4 (hT _ m1_60)
  obtain ⟨c7, i7, h7⟩ := u_known (C := RX5) (T := TX5) (N := 1) hT inX5 (hT _ m1_40)
  obtain ⟨c8, i8, h8⟩ := u_known (C := RX6) (T := TX6) (N := 1) hT inX6 (hT _ m1_84)
  obtain ⟨c9, i9, h9⟩ := u_known (C := RX7) (T := TX7) (N := 8) hT inX7 (hT _ m1_100)
  obtain ⟨c10, i10, h10⟩ := u_known (C := RX8) (T := TX8) (N := 1) hT inX8 (hT _ m1_52)
  obtain ⟨c11, i11, h11⟩ := u_known (C := RX9) (T := TX9) (N := 9) hT inX9 (hT _ m1_236)
  obtain ⟨c12, i12, h12⟩ := u_known (C := RX10) (T := TX10) (N := 1) hT inX10 (hT _ m1_92)
  obtain ⟨c13, i13, h13⟩ := u_known (C := RX11) (T := TX11) (N := 11) hT inX11 (hT _ m1_31)
  obtain ⟨c14, i14, h14⟩ := u_known (C := RX12) (T := TX12) (N := 49) hT inX12 (hT _ m5_96)
  obtain ⟨a0, t0⟩ := ty_p (hT _ m1_129) (fun _ h => by cases h)
  obtain ⟨a1, t1⟩ := ty_p (hT _ m2_103) (fun _ h => by cases h)
  obtain ⟨a2, t2⟩ := ty_p (hT _ m2_37) (fun _ h => by cases h)
  obtain ⟨a3, t3⟩ := ty_p (hT _ m6_9) (fun _ h => by cases h)
  obtain ⟨a4, t4⟩ := ty_o (hts _ l1_39)
  obtain ⟨a5, t5⟩ := ty_o (hts _ l1_106)
  obtain ⟨a6, t6⟩ := ty_o (hts _ l4_199)
  obtain ⟨a7, t7⟩ := ty_a (hts _ l2_65)
  refine ⟨(fun k => match k with | 0 => c0 | 1 => c1 | 2 => c2 | 3 => c3 | 4 => c4 | 5 => c5 | 6 => c6 | 7 => c7 | 8 => c8 | 9 => c9 | 10 => c10 | 11 => c11 | 12 => c12 | 13 => c13 | _ => c14, fun k => match k with | 0 => i0 | 1 => i1 | 2 => i2 | 3 => i3 | 4 => i4 | 5 => i5 | 6 => i6 | 7 => i7 | 8 => i8 | 9 => i9 | 10 => i10 | 11 => i11 | 12 => i12 | 13 => i13 | _ => i14), fun k => match k with | 0 => a0 | 1 => a1 | 2 => a2 | 3 => a3 | 4 => a4 | 5 => a5 | 6 => a6 | _ => a7, fun t ad => ⟨fun k q hq => ?_, fun k q hk => ?_⟩⟩
  · match k, hq with
    | 0, hq => cases hq; exact h0
    | 1, hq => cases hq; exact h1
    | 2, hq => cases hq; exact h2
    | 3, hq => cases hq; exact h3
    | 4, hq => cases hq; exact h4
    | 5, hq => cases hq; exact h5
    | 6, hq => cases hq; exact h6
    | 7, hq => cases hq; exact h7
    | 8, hq => cases hq; exact h8
    | 9, hq => cases hq; exact h9
    | 10, hq => cases hq; exact h10
    | 11, hq => cases hq; exact h11
    | 12, hq => cases hq; exact h12
    | 13, hq => cases hq; exact h13
    | 14, hq => cases hq; exact h14
    | k + 15, hq => simp [vwCl] at hq
  · match k, hk with
    | 0, hk => cases hk; exact t0
    | 1, hk => cases hk; exact t1
    | 2, hk => cases hk; exact t2
    | 3, hk => cases hk; exact t3
    | 4, hk => cases hk; exact t4
    | 5, hk => cases hk; exact t5
    | 6, hk => cases hk; exact t6
    | 7, hk => cases hk; exact t7
    | k + 8, hk => simp [TYS] at hk
