/-! the call of a nest mate's private method, in the reference -/
section CWN
variable {R : Room} {s : State} {args : Array Value} {C : String} {maxL mc ms : Nat} {y : MethodName} {bytes : ByteArray} {ret : Option FieldType} {rm : Room} {c0 c2 : Cond} {D : va_G} {cI cB cR : ClassId} {ad : Nat → Nat}
theorem cwVN (n : Nat) (ht : ∀ w ∈ c0 :: wA, w.before args s = true) (hKW : KM D cI cB cR ad s) (h2 : Cond.instanceMethod y_Mn_trim ∈ wA) (h3 : Cond.selects C y_Mn_trim y_Mn_trim ∈ wA) (h4 : Cond.initialized y_Mn_trim.cls ∈ wA) (h5 : c2 ∈ wA) (hw : c2 = Cond.code y_Mn_trim bytes maxL ret) (hrc : rm.cells = mc) (hrs : rm.slots = ms)
    (hd : y_Mn_trim.cls ≠ "java/lang/invoke/MethodHandle" ∧ y_Mn_trim.cls ≠ "java/lang/invoke/VarHandle" ∧ (parseMethodDescriptor y_Mn_trim.desc).map (fun d => d.parameters.length) = some n) (hR : rm.frames + 1 ≤ R.frames ∧ 8 + (maxL + 11) + rm.locals ≤ R.locals) :
    va_CN R s args R_Mo 129 y_Mn_trim R_Mo bytes maxL ret (c2 :: wA) rm mc ms n ∧ (Cond.instanceMethod y_Mn_trim).before args s = true ∧ (Cond.selects C y_Mn_trim y_Mn_trim).before args s = true :=
  ⟨va_cnB n ht (gA h5) (by rw [hw]) hrc hrs hKW.2.1.2 (hA_ ht h4) hd hR, hA_ ht h2, hA_ ht h3⟩
end CWN
