/-! WORDS AND ROOM of a call, out of the one list of words -/
section CW
variable {R : Room} {s : State} {args : Array Value} {own C host : String} {index maxL mc ms : Nat} {y : MethodName} {bytes : ByteArray} {ret : Option FieldType} {rm : Room} {c0 c2 : Cond}
/-- a static method of any class -/
theorem cwS0 (n : Nat) (ht : ∀ w ∈ c0 :: wA, w.before args s = true) (h1 : Cond.methodLink own index y ∈ wA) (h2 : Cond.static y ∈ wA) (h3 : Cond.initialized y.cls ∈ wA) (h5 : c2 ∈ wA) (hw : c2 = Cond.code y bytes maxL ret) (hrc : rm.cells = mc) (hrs : rm.slots = ms)
    (hd : y.cls ≠ "java/lang/invoke/MethodHandle" ∧ y.cls ≠ "java/lang/invoke/VarHandle" ∧ (parseMethodDescriptor y.desc).map (fun d => d.parameters.length) = some n) (hR : rm.frames + 1 ≤ R.frames ∧ 8 + (maxL + 11) + rm.locals ≤ R.locals) :
    CallB R s args own index y bytes maxL ret (c2 :: wA) rm mc ms n ∧ (Cond.static y).before args s = true :=
  ⟨callB_of n ht (gA h5) (by rw [hw]) hrc hrs (hA_ ht h3) (hA_ ht h1) hd hR, hA_ ht h2⟩
/-- a virtual method (the private ones too) -/
theorem cwV0 (n : Nat) (ht : ∀ w ∈ c0 :: wA, w.before args s = true) (h1 : Cond.methodLink own index y ∈ wA) (h2 : Cond.instanceMethod y ∈ wA) (h3 : Cond.selects C y y ∈ wA) (h4 : Cond.initialized y.cls ∈ wA) (h5 : c2 ∈ wA) (hw : c2 = Cond.code y bytes maxL ret) (hrc : rm.cells = mc) (hrs : rm.slots = ms)
    (hd : y.cls ≠ "java/lang/invoke/MethodHandle" ∧ y.cls ≠ "java/lang/invoke/VarHandle" ∧ (parseMethodDescriptor y.desc).map (fun d => d.parameters.length) = some n) (hR : rm.frames + 1 ≤ R.frames ∧ 8 + (maxL + 11) + rm.locals ≤ R.locals) :
    CallW R s args own C index y bytes maxL ret (c2 :: wA) rm mc ms n :=
  ⟨callB_of n ht (gA h5) (by rw [hw]) hrc hrs (hA_ ht h4) (hA_ ht h1) hd hR, hA_ ht h2, hA_ ht h3⟩
/-- a private static method of a nest mate -/
theorem cwN0 (n : Nat) (ht : ∀ w ∈ c0 :: wA, w.before args s = true) (hKB : KB s) (h1 : Cond.methodLinkNest own index y host ∈ wB) (h2 : Cond.static y ∈ wA) (h3 : Cond.initialized y.cls ∈ wA) (h5 : c2 ∈ wA) (hw : c2 = Cond.code y bytes maxL ret) (hrc : rm.cells = mc) (hrs : rm.slots = ms)
    (hd : y.cls ≠ "java/lang/invoke/MethodHandle" ∧ y.cls ≠ "java/lang/invoke/VarHandle" ∧ (parseMethodDescriptor y.desc).map (fun d => d.parameters.length) = some n) (hR : rm.frames + 1 ≤ R.frames ∧ 8 + (maxL + 11) + rm.locals ≤ R.locals) :
    va_CN R s args own index y host bytes maxL ret (c2 :: wA) rm mc ms n ∧ (Cond.static y).before args s = true ∧ True :=
  ⟨va_cnB n ht (gA h5) (by rw [hw]) hrc hrs (hKB _ h1) (hA_ ht h3) hd hR, hA_ ht h2, trivial⟩
theorem nest_Na : Cond.methodLinkNest R_Na 19 y_Lw_bitsOf R_Lw ∈ wB := List.mem_of_getElem? (i := 0) rfl
theorem nest_Be : Cond.methodLinkNest R_Be 46 y_Lw_bitsOf R_Lw ∈ wB := List.mem_of_getElem? (i := 1) rfl
theorem nest_Ro : Cond.methodLinkNest R_Ro 65 y_Lw_bitsOf R_Lw ∈ wB := List.mem_of_getElem? (i := 2) rfl
end CW
