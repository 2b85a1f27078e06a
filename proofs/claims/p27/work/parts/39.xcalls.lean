section XCALLS
variable {R : Room} {s : State} {args : Array Value} {own C owner : String} {index maxL mc ms : Nat} {x y : MethodName} {bytes : ByteArray} {ret : Option FieldType} {rm : Room}
/-- a virtual call of a method that the class inherits or has, as the tables say -/
theorem tU (n : Nat) (hT : ∀ w ∈ TBL, w.before args s = true) (h1 : Cond.methodLink own index x ∈ TBL) (h2 : Cond.sameMethod x.cls owner x.name x.desc ∈ TBL) (h5 : Cond.selects C x y ∈ TBL) (h6 : Cond.instanceMethod y ∈ TBL) (h3 : Cond.initialized y.cls ∈ TBL) (h4 : Cond.code y bytes maxL ret ∈ TBL) (hrc : rm.cells = mc) (hrs : rm.slots = ms)
    (hyx : y = ⟨owner, x.name, x.desc⟩) (hd : owner ≠ "java/lang/invoke/MethodHandle" ∧ owner ≠ "java/lang/invoke/VarHandle" ∧ (parseMethodDescriptor x.desc).map (fun d => d.parameters.length) = some n) (hR : rm.frames + 1 ≤ R.frames ∧ 8 + (maxL + 11) + rm.locals ≤ R.locals) :
    va_CU R s args own C owner index x y bytes maxL ret (Cond.code y bytes maxL ret :: TBL) rm mc ms n :=
  va_cwU n hT (tbl_goodIn (fun w h => by
    unfold va_wsU at h
    rcases List.mem_append.mp h with h | h
    · simp only [List.mem_cons, List.not_mem_nil, or_false] at h
      rcases h with rfl | rfl | rfl | rfl | rfl <;> assumption
    · exact (List.mem_cons.mp h).elim (fun e => e ▸ h4) id) (fun _ h => h)) rfl hrc hrs hyx hd hR
theorem tSU (n : Nat) (hT : ∀ w ∈ TBL, w.before args s = true) (h1 : Cond.methodLink own index y ∈ TBL) (h2 : Cond.sameMethod y.cls y.cls y.name y.desc ∈ TBL) (h5 : Cond.superclass own y.cls ∈ TBL) (h6 : Cond.instanceMethod y ∈ TBL) (h3 : Cond.initialized y.cls ∈ TBL) (h4 : Cond.code y bytes maxL ret ∈ TBL) (hrc : rm.cells = mc) (hrs : rm.slots = ms)
    (hd : y.name ≠ "<init>" ∧ (parseMethodDescriptor y.desc).map (fun d => d.parameters.length) = some n) (hR : rm.frames + 1 ≤ R.frames ∧ 8 + (maxL + 11) + rm.locals ≤ R.locals) :
    va_CS R s args own index y bytes maxL ret (Cond.code y bytes maxL ret :: TBL) rm mc ms n :=
  va_cwSU n hT (tbl_goodIn (fun w h => by
    unfold va_wsSU at h
    rcases List.mem_append.mp h with h | h
    · simp only [List.mem_cons, List.not_mem_nil, or_false] at h
      rcases h with rfl | rfl | rfl | rfl | rfl <;> assumption
    · exact (List.mem_cons.mp h).elim (fun e => e ▸ h4) id) (fun _ h => h)) rfl hrc hrs hd hR
end XCALLS
