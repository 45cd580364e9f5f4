/-! NAMES, laid by program (wip/whole/gen/mkparts.py): one list of words for every method; the classes; the methods -/
/-- every word of the tables that a callee may take over from its caller -/
def wA : List Cond := lw_tbl.filter goodWord
theorem wA_in {w : Cond} (h : w ∈ wA) : w ∈ lw_tbl := (List.mem_filter.mp h).1
theorem inT {w : Cond} (i : Nat) (h : tables_1[i]? = some w) (g : goodWord w = true) : w ∈ wA := List.mem_filter.mpr ⟨List.mem_append_right _ (List.mem_of_getElem? h), g⟩
theorem inP {w : Cond} (i : Nat) (h : (k2_sels lw_privs)[i]? = some w) (g : goodWord w = true) : w ∈ wA := List.mem_filter.mpr ⟨List.mem_append_left _ (List.mem_of_getElem? h), g⟩
theorem gA {c c2 : Cond} (h : c2 ∈ wA) : GoodIn (c :: wA) (c2 :: wA) := fun w hw => by
  have h1 : w ∈ wA := by
    rcases List.mem_cons.mp hw with e | e
    · rw [e]; exact h
    · exact e
  exact ⟨List.mem_cons_of_mem _ h1, good_of_word (List.mem_filter.mp h1).2⟩
theorem gV {c c2 : Cond} {own C : String} {idx : Nat} {y : MethodName} (h1 : Cond.methodLink own idx y ∈ wA) (h2 : Cond.instanceMethod y ∈ wA) (h3 : Cond.selects C y y ∈ wA) (h4 : Cond.initialized C ∈ wA) (h5 : c2 ∈ wA) : GoodIn (c :: wA) (wsV own idx C y (c2 :: wA)) := fun w hw => by
  have hw : w ∈ ([.methodLink own idx y, .instanceMethod y, .selects C y y, .initialized C] : List Cond) ++ (c2 :: wA) := hw
  simp only [List.mem_append, List.mem_cons, List.not_mem_nil, or_false] at hw
  have h : w ∈ wA := by
    rcases hw with (e | e | e | e) | e | e
    · rw [e]; exact h1
    · rw [e]; exact h2
    · rw [e]; exact h3
    · rw [e]; exact h4
    · rw [e]; exact h5
    · exact e
  exact ⟨List.mem_cons_of_mem _ h, good_of_word (List.mem_filter.mp h).2⟩
theorem gS {c c2 : Cond} {own : String} {idx : Nat} {y : MethodName} (h1 : Cond.methodLink own idx y ∈ wA) (h2 : Cond.static y ∈ wA) (h3 : Cond.initialized own ∈ wA) (h5 : c2 ∈ wA) : GoodIn (c :: wA) (wsS own idx y (c2 :: wA)) := fun w hw => by
  have hw : w ∈ ([.methodLink own idx y, .static y, .initialized own] : List Cond) ++ (c2 :: wA) := hw
  simp only [List.mem_append, List.mem_cons, List.not_mem_nil, or_false] at hw
  have h : w ∈ wA := by
    rcases hw with (e | e | e) | e | e
    · rw [e]; exact h1
    · rw [e]; exact h2
    · rw [e]; exact h3
    · rw [e]; exact h5
    · exact e
  exact ⟨List.mem_cons_of_mem _ h, good_of_word (List.mem_filter.mp h).2⟩
theorem gSo {c c2 : Cond} {own : String} {idx : Nat} {y : MethodName} (h1 : Cond.methodLink own idx y ∈ wA) (h2 : Cond.static y ∈ wA) (h3 : Cond.initialized y.cls ∈ wA) (h5 : c2 ∈ wA) : GoodIn (c :: wA) (va_wsS own idx y (c2 :: wA)) := fun w hw => by
  have hw : w ∈ ([.methodLink own idx y, .static y, .initialized y.cls] : List Cond) ++ (c2 :: wA) := hw
  simp only [List.mem_append, List.mem_cons, List.not_mem_nil, or_false] at hw
  have h : w ∈ wA := by
    rcases hw with (e | e | e) | e | e
    · rw [e]; exact h1
    · rw [e]; exact h2
    · rw [e]; exact h3
    · rw [e]; exact h5
    · exact e
  exact ⟨List.mem_cons_of_mem _ h, good_of_word (List.mem_filter.mp h).2⟩
theorem hA_ {c : Cond} {args : Array Value} {s : State} (h : ∀ w ∈ c :: wA, w.before args s = true) {w : Cond} (hw : w ∈ wA) : w.before args s = true := h w (List.mem_cons_of_mem _ hw)
def R_Lw : String := "LimbWorks"
def F_Lw : u_T := fun k => match k with
  | 0 => ("LimbWorks", "registers", "[LLimbWorks$Natural;", true)
  | 1 => ("LimbWorks", "spare", "LLimbWorks$Natural;", true)
  | 2 => ("LimbWorks", "bench", "LLimbWorks$Bench;", true)
  | 3 => ("LimbWorks", "roots", "LLimbWorks$Roots;", true)
  | 4 => ("LimbWorks", "pieces", "[I", true)
  | 5 => ("LimbWorks", "tape", "[B", true)
  | 6 => ("LimbWorks", "out", "[B", true)
  | 7 => ("LimbWorks", "tapeLength", "I", false)
  | _ => ("LimbWorks", "outLength", "I", false)
def t_Lw : Nat → FieldType := fun k => match k with
  | 0 => .array (.object "LimbWorks$Natural")
  | 1 => .object "LimbWorks$Natural"
  | 2 => .object "LimbWorks$Bench"
  | 3 => .object "LimbWorks$Roots"
  | 4 => .array .int
  | 5 => .array .byte
  | 6 => .array .byte
  | 7 => .int
  | _ => .int
abbrev w_Lw : List Cond := u_ws R_Lw F_Lw 9
theorem n_Lw : ∀ a, a < 9 → ∀ b, b < 9 → a ≠ b → (F_Lw a).2.1 ≠ (F_Lw b).2.1 := by decide +kernel
theorem t_Lw_ok : ∀ k, k < 9 → parseFieldDescriptor (F_Lw k).2.2.1 = some (t_Lw k) := by decide +kernel
theorem i_Lw : ∀ w ∈ w_Lw, w ∈ wA := by
  show ∀ w ∈ ([.laysFinal "LimbWorks" "LimbWorks" "registers" "[LLimbWorks$Natural;", .laysFinal "LimbWorks" "LimbWorks" "spare" "LLimbWorks$Natural;", .laysFinal "LimbWorks" "LimbWorks" "bench" "LLimbWorks$Bench;", .laysFinal "LimbWorks" "LimbWorks" "roots" "LLimbWorks$Roots;", .laysFinal "LimbWorks" "LimbWorks" "pieces" "[I", .laysFinal "LimbWorks" "LimbWorks" "tape" "[B", .laysFinal "LimbWorks" "LimbWorks" "out" "[B", .lays "LimbWorks" "LimbWorks" "tapeLength" "I", .lays "LimbWorks" "LimbWorks" "outLength" "I"] : List Cond), w ∈ wA
  exact List.forall_mem_cons.mpr ⟨inT (w := .laysFinal "LimbWorks" "LimbWorks" "registers" "[LLimbWorks$Natural;") 90 (by decide +kernel) rfl, List.forall_mem_cons.mpr ⟨inT (w := .laysFinal "LimbWorks" "LimbWorks" "spare" "LLimbWorks$Natural;") 92 (by decide +kernel) rfl, List.forall_mem_cons.mpr ⟨inT (w := .laysFinal "LimbWorks" "LimbWorks" "bench" "LLimbWorks$Bench;") 94 (by decide +kernel) rfl, List.forall_mem_cons.mpr ⟨inT (w := .laysFinal "LimbWorks" "LimbWorks" "roots" "LLimbWorks$Roots;") 96 (by decide +kernel) rfl, List.forall_mem_cons.mpr ⟨inT (w := .laysFinal "LimbWorks" "LimbWorks" "pieces" "[I") 98 (by decide +kernel) rfl, List.forall_mem_cons.mpr ⟨inT (w := .laysFinal "LimbWorks" "LimbWorks" "tape" "[B") 100 (by decide +kernel) rfl, List.forall_mem_cons.mpr ⟨inT (w := .laysFinal "LimbWorks" "LimbWorks" "out" "[B") 102 (by decide +kernel) rfl, List.forall_mem_cons.mpr ⟨inT (w := .lays "LimbWorks" "LimbWorks" "tapeLength" "I") 104 (by decide +kernel) rfl, List.forall_mem_cons.mpr ⟨inT (w := .lays "LimbWorks" "LimbWorks" "outLength" "I") 106 (by decide +kernel) rfl, fun _ h => absurd h List.not_mem_nil⟩⟩⟩⟩⟩⟩⟩⟩⟩
def R_Na : String := "LimbWorks$Natural"
def F_Na : u_T := fun k => match k with
  | 0 => ("LimbWorks$Natural", "words", "[I", true)
  | _ => ("LimbWorks$Natural", "length", "I", false)
def t_Na : Nat → FieldType := fun k => match k with
  | 0 => .array .int
  | _ => .int
abbrev w_Na : List Cond := u_ws R_Na F_Na 2
theorem n_Na : ∀ a, a < 2 → ∀ b, b < 2 → a ≠ b → (F_Na a).2.1 ≠ (F_Na b).2.1 := by decide +kernel
theorem t_Na_ok : ∀ k, k < 2 → parseFieldDescriptor (F_Na k).2.2.1 = some (t_Na k) := by decide +kernel
theorem i_Na : ∀ w ∈ w_Na, w ∈ wA := by
  show ∀ w ∈ ([.laysFinal "LimbWorks$Natural" "LimbWorks$Natural" "words" "[I", .lays "LimbWorks$Natural" "LimbWorks$Natural" "length" "I"] : List Cond), w ∈ wA
  exact List.forall_mem_cons.mpr ⟨inT (w := .laysFinal "LimbWorks$Natural" "LimbWorks$Natural" "words" "[I") 47 (by decide +kernel) rfl, List.forall_mem_cons.mpr ⟨inT (w := .lays "LimbWorks$Natural" "LimbWorks$Natural" "length" "I") 49 (by decide +kernel) rfl, fun _ h => absurd h List.not_mem_nil⟩⟩
def R_Be : String := "LimbWorks$Bench"
def F_Be : u_T := fun k => match k with
  | _ => ("LimbWorks$Bench", "row", "[I", true)
def t_Be : Nat → FieldType := fun k => match k with
  | _ => .array .int
abbrev w_Be : List Cond := u_ws R_Be F_Be 1
theorem n_Be : ∀ a, a < 1 → ∀ b, b < 1 → a ≠ b → (F_Be a).2.1 ≠ (F_Be b).2.1 := by decide +kernel
theorem t_Be_ok : ∀ k, k < 1 → parseFieldDescriptor (F_Be k).2.2.1 = some (t_Be k) := by decide +kernel
theorem i_Be : ∀ w ∈ w_Be, w ∈ wA := by
  show ∀ w ∈ ([.laysFinal "LimbWorks$Bench" "LimbWorks$Bench" "row" "[I"] : List Cond), w ∈ wA
  exact List.forall_mem_cons.mpr ⟨inT (w := .laysFinal "LimbWorks$Bench" "LimbWorks$Bench" "row" "[I") 60 (by decide +kernel) rfl, fun _ h => absurd h List.not_mem_nil⟩
def R_Ro : String := "LimbWorks$Roots"
def F_Ro : u_T := fun k => match k with
  | 0 => ("LimbWorks$Roots", "lesser", "LLimbWorks$Natural;", true)
  | 1 => ("LimbWorks$Roots", "whole", "LLimbWorks$Natural;", true)
  | _ => ("LimbWorks$Roots", "part", "LLimbWorks$Natural;", true)
def t_Ro : Nat → FieldType := fun k => match k with
  | 0 => .object "LimbWorks$Natural"
  | 1 => .object "LimbWorks$Natural"
  | _ => .object "LimbWorks$Natural"
abbrev w_Ro : List Cond := u_ws R_Ro F_Ro 3
theorem n_Ro : ∀ a, a < 3 → ∀ b, b < 3 → a ≠ b → (F_Ro a).2.1 ≠ (F_Ro b).2.1 := by decide +kernel
theorem t_Ro_ok : ∀ k, k < 3 → parseFieldDescriptor (F_Ro k).2.2.1 = some (t_Ro k) := by decide +kernel
theorem i_Ro : ∀ w ∈ w_Ro, w ∈ wA := by
  show ∀ w ∈ ([.laysFinal "LimbWorks$Roots" "LimbWorks$Roots" "lesser" "LLimbWorks$Natural;", .laysFinal "LimbWorks$Roots" "LimbWorks$Roots" "whole" "LLimbWorks$Natural;", .laysFinal "LimbWorks$Roots" "LimbWorks$Roots" "part" "LLimbWorks$Natural;"] : List Cond), w ∈ wA
  exact List.forall_mem_cons.mpr ⟨inT (w := .laysFinal "LimbWorks$Roots" "LimbWorks$Roots" "lesser" "LLimbWorks$Natural;") 74 (by decide +kernel) rfl, List.forall_mem_cons.mpr ⟨inT (w := .laysFinal "LimbWorks$Roots" "LimbWorks$Roots" "whole" "LLimbWorks$Natural;") 76 (by decide +kernel) rfl, List.forall_mem_cons.mpr ⟨inT (w := .laysFinal "LimbWorks$Roots" "LimbWorks$Roots" "part" "LLimbWorks$Natural;") 78 (by decide +kernel) rfl, fun _ h => absurd h List.not_mem_nil⟩⟩⟩
def R_Mo : String := "LimbWorksModel"
def F_Mo : u_T := fun k => match k with
  | 0 => ("LimbWorksModel", "register", "[LLimbWorksModel$Nat;", true)
  | 1 => ("LimbWorksModel", "value", "LLimbWorksModel$Nat;", true)
  | 2 => ("LimbWorksModel", "other", "LLimbWorksModel$Nat;", true)
  | 3 => ("LimbWorksModel", "product", "LLimbWorksModel$Nat;", true)
  | 4 => ("LimbWorksModel", "rest", "LLimbWorksModel$Nat;", true)
  | 5 => ("LimbWorksModel", "divisor", "LLimbWorksModel$Nat;", true)
  | 6 => ("LimbWorksModel", "power", "LLimbWorksModel$Nat;", true)
  | 7 => ("LimbWorksModel", "square", "LLimbWorksModel$Nat;", true)
  | 8 => ("LimbWorksModel", "guess", "LLimbWorksModel$Nat;", true)
  | 9 => ("LimbWorksModel", "unit", "LLimbWorksModel$Nat;", true)
  | 10 => ("LimbWorksModel", "tape", "[B", true)
  | 11 => ("LimbWorksModel", "out", "[B", true)
  | 12 => ("LimbWorksModel", "tapeSize", "I", false)
  | 13 => ("LimbWorksModel", "outSize", "I", false)
  | _ => ("LimbWorksModel", "thrown", "I", false)
def t_Mo : Nat → FieldType := fun k => match k with
  | 0 => .array (.object "LimbWorksModel$Nat")
  | 1 => .object "LimbWorksModel$Nat"
  | 2 => .object "LimbWorksModel$Nat"
  | 3 => .object "LimbWorksModel$Nat"
  | 4 => .object "LimbWorksModel$Nat"
  | 5 => .object "LimbWorksModel$Nat"
  | 6 => .object "LimbWorksModel$Nat"
  | 7 => .object "LimbWorksModel$Nat"
  | 8 => .object "LimbWorksModel$Nat"
  | 9 => .object "LimbWorksModel$Nat"
  | 10 => .array .byte
  | 11 => .array .byte
  | 12 => .int
  | 13 => .int
  | _ => .int
abbrev w_Mo : List Cond := u_ws R_Mo F_Mo 15
theorem n_Mo : ∀ a, a < 15 → ∀ b, b < 15 → a ≠ b → (F_Mo a).2.1 ≠ (F_Mo b).2.1 := by decide +kernel
theorem t_Mo_ok : ∀ k, k < 15 → parseFieldDescriptor (F_Mo k).2.2.1 = some (t_Mo k) := by decide +kernel
theorem i_Mo : ∀ w ∈ w_Mo, w ∈ wA := by
  show ∀ w ∈ ([.laysFinal "LimbWorksModel" "LimbWorksModel" "register" "[LLimbWorksModel$Nat;", .laysFinal "LimbWorksModel" "LimbWorksModel" "value" "LLimbWorksModel$Nat;", .laysFinal "LimbWorksModel" "LimbWorksModel" "other" "LLimbWorksModel$Nat;", .laysFinal "LimbWorksModel" "LimbWorksModel" "product" "LLimbWorksModel$Nat;", .laysFinal "LimbWorksModel" "LimbWorksModel" "rest" "LLimbWorksModel$Nat;", .laysFinal "LimbWorksModel" "LimbWorksModel" "divisor" "LLimbWorksModel$Nat;", .laysFinal "LimbWorksModel" "LimbWorksModel" "power" "LLimbWorksModel$Nat;", .laysFinal "LimbWorksModel" "LimbWorksModel" "square" "LLimbWorksModel$Nat;", .laysFinal "LimbWorksModel" "LimbWorksModel" "guess" "LLimbWorksModel$Nat;", .laysFinal "LimbWorksModel" "LimbWorksModel" "unit" "LLimbWorksModel$Nat;", .laysFinal "LimbWorksModel" "LimbWorksModel" "tape" "[B", .laysFinal "LimbWorksModel" "LimbWorksModel" "out" "[B", .lays "LimbWorksModel" "LimbWorksModel" "tapeSize" "I", .lays "LimbWorksModel" "LimbWorksModel" "outSize" "I", .lays "LimbWorksModel" "LimbWorksModel" "thrown" "I"] : List Cond), w ∈ wA
  exact List.forall_mem_cons.mpr ⟨inT (w := .laysFinal "LimbWorksModel" "LimbWorksModel" "register" "[LLimbWorksModel$Nat;") 904 (by decide +kernel) rfl, List.forall_mem_cons.mpr ⟨inT (w := .laysFinal "LimbWorksModel" "LimbWorksModel" "value" "LLimbWorksModel$Nat;") 906 (by decide +kernel) rfl, List.forall_mem_cons.mpr ⟨inT (w := .laysFinal "LimbWorksModel" "LimbWorksModel" "other" "LLimbWorksModel$Nat;") 908 (by decide +kernel) rfl, List.forall_mem_cons.mpr ⟨inT (w := .laysFinal "LimbWorksModel" "LimbWorksModel" "product" "LLimbWorksModel$Nat;") 910 (by decide +kernel) rfl, List.forall_mem_cons.mpr ⟨inT (w := .laysFinal "LimbWorksModel" "LimbWorksModel" "rest" "LLimbWorksModel$Nat;") 912 (by decide +kernel) rfl, List.forall_mem_cons.mpr ⟨inT (w := .laysFinal "LimbWorksModel" "LimbWorksModel" "divisor" "LLimbWorksModel$Nat;") 914 (by decide +kernel) rfl, List.forall_mem_cons.mpr ⟨inT (w := .laysFinal "LimbWorksModel" "LimbWorksModel" "power" "LLimbWorksModel$Nat;") 916 (by decide +kernel) rfl, List.forall_mem_cons.mpr ⟨inT (w := .laysFinal "LimbWorksModel" "LimbWorksModel" "square" "LLimbWorksModel$Nat;") 918 (by decide +kernel) rfl, List.forall_mem_cons.mpr ⟨inT (w := .laysFinal "LimbWorksModel" "LimbWorksModel" "guess" "LLimbWorksModel$Nat;") 920 (by decide +kernel) rfl, List.forall_mem_cons.mpr ⟨inT (w := .laysFinal "LimbWorksModel" "LimbWorksModel" "unit" "LLimbWorksModel$Nat;") 922 (by decide +kernel) rfl, List.forall_mem_cons.mpr ⟨inT (w := .laysFinal "LimbWorksModel" "LimbWorksModel" "tape" "[B") 924 (by decide +kernel) rfl, List.forall_mem_cons.mpr ⟨inT (w := .laysFinal "LimbWorksModel" "LimbWorksModel" "out" "[B") 926 (by decide +kernel) rfl, List.forall_mem_cons.mpr ⟨inT (w := .lays "LimbWorksModel" "LimbWorksModel" "tapeSize" "I") 928 (by decide +kernel) rfl, List.forall_mem_cons.mpr ⟨inT (w := .lays "LimbWorksModel" "LimbWorksModel" "outSize" "I") 930 (by decide +kernel) rfl, List.forall_mem_cons.mpr ⟨inT (w := .lays "LimbWorksModel" "LimbWorksModel" "thrown" "I") 932 (by decide +kernel) rfl, fun _ h => absurd h List.not_mem_nil⟩⟩⟩⟩⟩⟩⟩⟩⟩⟩⟩⟩⟩⟩⟩
def R_Mn : String := "LimbWorksModel$Nat"
def F_Mn : u_T := fun k => match k with
  | 0 => ("LimbWorksModel$Nat", "w", "[I", true)
  | _ => ("LimbWorksModel$Nat", "n", "I", false)
def t_Mn : Nat → FieldType := fun k => match k with
  | 0 => .array .int
  | _ => .int
abbrev w_Mn : List Cond := u_ws R_Mn F_Mn 2
theorem n_Mn : ∀ a, a < 2 → ∀ b, b < 2 → a ≠ b → (F_Mn a).2.1 ≠ (F_Mn b).2.1 := by decide +kernel
theorem t_Mn_ok : ∀ k, k < 2 → parseFieldDescriptor (F_Mn k).2.2.1 = some (t_Mn k) := by decide +kernel
theorem i_Mn : ∀ w ∈ w_Mn, w ∈ wA := by
  show ∀ w ∈ ([.laysFinal "LimbWorksModel$Nat" "LimbWorksModel$Nat" "w" "[I", .lays "LimbWorksModel$Nat" "LimbWorksModel$Nat" "n" "I"] : List Cond), w ∈ wA
  exact List.forall_mem_cons.mpr ⟨inT (w := .laysFinal "LimbWorksModel$Nat" "LimbWorksModel$Nat" "w" "[I") 884 (by decide +kernel) rfl, List.forall_mem_cons.mpr ⟨inT (w := .lays "LimbWorksModel$Nat" "LimbWorksModel$Nat" "n" "I") 886 (by decide +kernel) rfl, fun _ h => absurd h List.not_mem_nil⟩⟩
def R_La : String := "LimbWorksLaw"
def R_Ji : String := "java/lang/Integer"
def R_Ja : String := "java/util/Arrays"
/-- the classes whose objects the worlds hold -/
abbrev clA : List vw_C := [(R_Lw, F_Lw, 9), (R_Na, F_Na, 2), (R_Be, F_Be, 1), (R_Ro, F_Ro, 3), (R_Mo, F_Mo, 15), (R_Mn, F_Mn, 2)]
abbrev b_Lw_init : ByteArray := prog_1_method_1_code
def y_Lw_init : MethodName := ⟨R_Lw, "<init>", "()V"⟩
abbrev q_Lw_init : Cond := .code y_Lw_init b_Lw_init 2 none
set_option maxRecDepth 20000 in
theorem kq_Lw_init : q_Lw_init ∈ wA := inT 30 rfl rfl
abbrev b_Na_init : ByteArray := prog_3_method_1_code
def y_Na_init : MethodName := ⟨R_Na, "<init>", "()V"⟩
abbrev q_Na_init : Cond := .code y_Na_init b_Na_init 1 none
set_option maxRecDepth 20000 in
theorem kq_Na_init : q_Na_init ∈ wA := inT 39 rfl rfl
abbrev b_Be_init : ByteArray := prog_2_method_1_code
def y_Be_init : MethodName := ⟨R_Be, "<init>", "()V"⟩
abbrev q_Be_init : Cond := .code y_Be_init b_Be_init 1 none
set_option maxRecDepth 20000 in
theorem kq_Be_init : q_Be_init ∈ wA := inT 57 rfl rfl
abbrev b_Ro_init : ByteArray := prog_4_method_1_code
def y_Ro_init : MethodName := ⟨R_Ro, "<init>", "()V"⟩
abbrev q_Ro_init : Cond := .code y_Ro_init b_Ro_init 1 none
set_option maxRecDepth 20000 in
theorem kq_Ro_init : q_Ro_init ∈ wA := inT 67 rfl rfl
abbrev b_La_set : ByteArray := method_3_code
def y_La_set : MethodName := ⟨R_La, "set", "(LLimbWorks;IJ[J)I"⟩
abbrev q_La_set : Cond := .codeWith y_La_set b_La_set 6 (some (.int)) [(0, 11, 14, 13)]
set_option maxRecDepth 20000 in
theorem kq_La_set : q_La_set ∈ wA := inT 112 rfl rfl
abbrev b_Lw_set : ByteArray := prog_1_method_2_code
def y_Lw_set : MethodName := ⟨R_Lw, "set", "(IJ)I"⟩
abbrev q_Lw_set : Cond := .code y_Lw_set b_Lw_set 5 (some (.int))
set_option maxRecDepth 20000 in
theorem kq_Lw_set : q_Lw_set ∈ wA := inT 117 rfl rfl
abbrev b_Lw_registerAt : ByteArray := prog_1_method_19_code
def y_Lw_registerAt : MethodName := ⟨R_Lw, "registerAt", "(I)LLimbWorks$Natural;"⟩
abbrev q_Lw_registerAt : Cond := .code y_Lw_registerAt b_Lw_registerAt 2 (some ((.object "LimbWorks$Natural")))
set_option maxRecDepth 20000 in
theorem kq_Lw_registerAt : q_Lw_registerAt ∈ wA := inT 121 rfl rfl
abbrev b_Lw_requireRange : ByteArray := prog_1_method_20_code
def y_Lw_requireRange : MethodName := ⟨R_Lw, "requireRange", "(III)V"⟩
abbrev q_Lw_requireRange : Cond := .code y_Lw_requireRange b_Lw_requireRange 3 none
set_option maxRecDepth 20000 in
theorem kq_Lw_requireRange : q_Lw_requireRange ∈ wA := inT 124 rfl rfl
abbrev b_Na_putLong : ByteArray := prog_3_method_4_code
def y_Na_putLong : MethodName := ⟨R_Na, "putLong", "(J)V"⟩
abbrev q_Na_putLong : Cond := .code y_Na_putLong b_Na_putLong 3 none
set_option maxRecDepth 20000 in
theorem kq_Na_putLong : q_Na_putLong ∈ wA := inT 194 rfl rfl
abbrev b_Na_trim : ByteArray := prog_3_method_3_code
def y_Na_trim : MethodName := ⟨R_Na, "trim", "(I)V"⟩
abbrev q_Na_trim : Cond := .code y_Na_trim b_Na_trim 2 none
set_option maxRecDepth 20000 in
theorem kq_Na_trim : q_Na_trim ∈ wA := inT 198 rfl rfl
abbrev b_Na_countBits : ByteArray := prog_3_method_2_code
def y_Na_countBits : MethodName := ⟨R_Na, "countBits", "()I"⟩
abbrev q_Na_countBits : Cond := .code y_Na_countBits b_Na_countBits 1 (some (.int))
set_option maxRecDepth 20000 in
theorem kq_Na_countBits : q_Na_countBits ∈ wA := inT 202 rfl rfl
abbrev b_Lw_bitsOf : ByteArray := prog_1_method_23_code
def y_Lw_bitsOf : MethodName := ⟨R_Lw, "bitsOf", "(I)I"⟩
abbrev q_Lw_bitsOf : Cond := .code y_Lw_bitsOf b_Lw_bitsOf 2 (some (.int))
set_option maxRecDepth 20000 in
theorem kq_Lw_bitsOf : q_Lw_bitsOf ∈ wA := inT 205 rfl rfl
abbrev b_Ji_bitCount : ByteArray := prog_14_method_49_code
def y_Ji_bitCount : MethodName := ⟨R_Ji, "bitCount", "(I)I"⟩
abbrev q_Ji_bitCount : Cond := .code y_Ji_bitCount b_Ji_bitCount 1 (some (.int))
set_option maxRecDepth 20000 in
theorem kq_Ji_bitCount : q_Ji_bitCount ∈ wA := inT 208 rfl rfl
abbrev b_La_copy : ByteArray := method_4_code
def y_La_copy : MethodName := ⟨R_La, "copy", "(LLimbWorks;II[J)I"⟩
abbrev q_La_copy : Cond := .codeWith y_La_copy b_La_copy 5 (some (.int)) [(0, 10, 13, 13)]
set_option maxRecDepth 20000 in
theorem kq_La_copy : q_La_copy ∈ wA := inT 214 rfl rfl
abbrev b_Lw_copy : ByteArray := prog_1_method_3_code
def y_Lw_copy : MethodName := ⟨R_Lw, "copy", "(II)I"⟩
abbrev q_Lw_copy : Cond := .code y_Lw_copy b_Lw_copy 4 (some (.int))
set_option maxRecDepth 20000 in
theorem kq_Lw_copy : q_Lw_copy ∈ wA := inT 218 rfl rfl
abbrev b_Lw_keep : ByteArray := prog_1_method_22_code
def y_Lw_keep : MethodName := ⟨R_Lw, "keep", "(LLimbWorks$Natural;LLimbWorks$Natural;)I"⟩
abbrev q_Lw_keep : Cond := .code y_Lw_keep b_Lw_keep 2 (some (.int))
set_option maxRecDepth 20000 in
theorem kq_Lw_keep : q_Lw_keep ∈ wA := inT 221 rfl rfl
abbrev b_Na_putSame : ByteArray := prog_3_method_5_code
def y_Na_putSame : MethodName := ⟨R_Na, "putSame", "(LLimbWorks$Natural;)V"⟩
abbrev q_Na_putSame : Cond := .code y_Na_putSame b_Na_putSame 2 none
set_option maxRecDepth 20000 in
theorem kq_Na_putSame : q_Na_putSame ∈ wA := inT 225 rfl rfl
abbrev b_La_shift : ByteArray := method_5_code
def y_La_shift : MethodName := ⟨R_La, "shift", "(LLimbWorks;III[J)I"⟩
abbrev q_La_shift : Cond := .codeWith y_La_shift b_La_shift 6 (some (.int)) [(0, 12, 15, 13), (0, 12, 19, 23)]
set_option maxRecDepth 20000 in
theorem kq_La_shift : q_La_shift ∈ wA := inT 231 rfl rfl
abbrev b_Lw_shift : ByteArray := prog_1_method_4_code
def y_Lw_shift : MethodName := ⟨R_Lw, "shift", "(III)I"⟩
abbrev q_Lw_shift : Cond := .code y_Lw_shift b_Lw_shift 6 (some (.int))
set_option maxRecDepth 20000 in
theorem kq_Lw_shift : q_Lw_shift ∈ wA := inT 236 rfl rfl
abbrev b_Lw_refuseBeyond : ByteArray := prog_1_method_21_code
def y_Lw_refuseBeyond : MethodName := ⟨R_Lw, "refuseBeyond", "(II)V"⟩
abbrev q_Lw_refuseBeyond : Cond := .code y_Lw_refuseBeyond b_Lw_refuseBeyond 2 none
set_option maxRecDepth 20000 in
theorem kq_Lw_refuseBeyond : q_Lw_refuseBeyond ∈ wA := inT 241 rfl rfl
abbrev b_Na_putMoved : ByteArray := prog_3_method_9_code
def y_Na_putMoved : MethodName := ⟨R_Na, "putMoved", "(LLimbWorks$Natural;I)V"⟩
abbrev q_Na_putMoved : Cond := .code y_Na_putMoved b_Na_putMoved 3 none
set_option maxRecDepth 20000 in
theorem kq_Na_putMoved : q_Na_putMoved ∈ wA := inT 260 rfl rfl
abbrev b_Na_moveUp : ByteArray := prog_3_method_10_code
def y_Na_moveUp : MethodName := ⟨R_Na, "moveUp", "(LLimbWorks$Natural;II)V"⟩
abbrev q_Na_moveUp : Cond := .code y_Na_moveUp b_Na_moveUp 8 none
set_option maxRecDepth 20000 in
theorem kq_Na_moveUp : q_Na_moveUp ∈ wA := inT 264 rfl rfl
abbrev b_Ja_fill : ByteArray := prog_24_method_104_code
def y_Ja_fill : MethodName := ⟨R_Ja, "fill", "([IIII)V"⟩
abbrev q_Ja_fill : Cond := .code y_Ja_fill b_Ja_fill 5 none
set_option maxRecDepth 20000 in
theorem kq_Ja_fill : q_Ja_fill ∈ wA := inT 267 rfl rfl
abbrev b_Ja_rangeCheck : ByteArray := prog_24_method_30_code
def y_Ja_rangeCheck : MethodName := ⟨R_Ja, "rangeCheck", "(III)V"⟩
abbrev q_Ja_rangeCheck : Cond := .code y_Ja_rangeCheck b_Ja_rangeCheck 3 none
set_option maxRecDepth 20000 in
theorem kq_Ja_rangeCheck : q_Ja_rangeCheck ∈ wA := inT 270 rfl rfl
abbrev b_Na_moveDown : ByteArray := prog_3_method_11_code
def y_Na_moveDown : MethodName := ⟨R_Na, "moveDown", "(LLimbWorks$Natural;II)V"⟩
abbrev q_Na_moveDown : Cond := .code y_Na_moveDown b_Na_moveDown 8 none
set_option maxRecDepth 20000 in
theorem kq_Na_moveDown : q_Na_moveDown ∈ wA := inT 525 rfl rfl
abbrev b_La_add : ByteArray := method_6_code
def y_La_add : MethodName := ⟨R_La, "add", "(LLimbWorks;III[J)I"⟩
abbrev q_La_add : Cond := .codeWith y_La_add b_La_add 6 (some (.int)) [(0, 12, 15, 13), (0, 12, 19, 23)]
set_option maxRecDepth 20000 in
theorem kq_La_add : q_La_add ∈ wA := inT 529 rfl rfl
abbrev b_Lw_add : ByteArray := prog_1_method_5_code
def y_Lw_add : MethodName := ⟨R_Lw, "add", "(III)I"⟩
abbrev q_Lw_add : Cond := .code y_Lw_add b_Lw_add 5 (some (.int))
set_option maxRecDepth 20000 in
theorem kq_Lw_add : q_Lw_add ∈ wA := inT 533 rfl rfl
abbrev b_Na_putSum : ByteArray := prog_3_method_7_code
def y_Na_putSum : MethodName := ⟨R_Na, "putSum", "(LLimbWorks$Natural;LLimbWorks$Natural;)V"⟩
abbrev q_Na_putSum : Cond := .code y_Na_putSum b_Na_putSum 10 none
set_option maxRecDepth 20000 in
theorem kq_Na_putSum : q_Na_putSum ∈ wA := inT 537 rfl rfl
abbrev b_La_subtract : ByteArray := method_7_code
def y_La_subtract : MethodName := ⟨R_La, "subtract", "(LLimbWorks;III[J)I"⟩
abbrev q_La_subtract : Cond := .codeWith y_La_subtract b_La_subtract 6 (some (.int)) [(0, 12, 15, 13), (0, 12, 19, 31)]
set_option maxRecDepth 20000 in
theorem kq_La_subtract : q_La_subtract ∈ wA := inT 541 rfl rfl
abbrev b_Lw_subtract : ByteArray := prog_1_method_6_code
def y_Lw_subtract : MethodName := ⟨R_Lw, "subtract", "(III)I"⟩
abbrev q_Lw_subtract : Cond := .code y_Lw_subtract b_Lw_subtract 7 (some (.int))
set_option maxRecDepth 20000 in
theorem kq_Lw_subtract : q_Lw_subtract ∈ wA := inT 546 rfl rfl
abbrev b_Na_order : ByteArray := prog_3_method_6_code
def y_Na_order : MethodName := ⟨R_Na, "order", "(LLimbWorks$Natural;)I"⟩
abbrev q_Na_order : Cond := .code y_Na_order b_Na_order 3 (some (.int))
set_option maxRecDepth 20000 in
theorem kq_Na_order : q_Na_order ∈ wA := inT 550 rfl rfl
abbrev b_Na_putDifference : ByteArray := prog_3_method_8_code
def y_Na_putDifference : MethodName := ⟨R_Na, "putDifference", "(LLimbWorks$Natural;LLimbWorks$Natural;)V"⟩
abbrev q_Na_putDifference : Cond := .code y_Na_putDifference b_Na_putDifference 8 none
set_option maxRecDepth 20000 in
theorem kq_Na_putDifference : q_Na_putDifference ∈ wA := inT 569 rfl rfl
abbrev b_La_times : ByteArray := method_8_code
def y_La_times : MethodName := ⟨R_La, "times", "(LLimbWorks;III[J)I"⟩
abbrev q_La_times : Cond := .codeWith y_La_times b_La_times 6 (some (.int)) [(0, 12, 15, 13), (0, 12, 19, 23)]
set_option maxRecDepth 20000 in
theorem kq_La_times : q_La_times ∈ wA := inT 572 rfl rfl
abbrev b_Lw_times : ByteArray := prog_1_method_7_code
def y_Lw_times : MethodName := ⟨R_Lw, "times", "(III)I"⟩
abbrev q_Lw_times : Cond := .code y_Lw_times b_Lw_times 7 (some (.int))
set_option maxRecDepth 20000 in
theorem kq_Lw_times : q_Lw_times ∈ wA := inT 576 rfl rfl
abbrev b_Be_putProduct : ByteArray := prog_2_method_2_code
def y_Be_putProduct : MethodName := ⟨R_Be, "putProduct", "(LLimbWorks$Natural;LLimbWorks$Natural;LLimbWorks$Natural;)V"⟩
abbrev q_Be_putProduct : Cond := .code y_Be_putProduct b_Be_putProduct 8 none
set_option maxRecDepth 20000 in
theorem kq_Be_putProduct : q_Be_putProduct ∈ wA := inT 580 rfl rfl
abbrev b_Be_multiply : ByteArray := prog_2_method_6_code
def y_Be_multiply : MethodName := ⟨R_Be, "multiply", "(IIIIIII)V"⟩
abbrev q_Be_multiply : Cond := .code y_Be_multiply b_Be_multiply 10 none
set_option maxRecDepth 20000 in
theorem kq_Be_multiply : q_Be_multiply ∈ wA := inT 585 rfl rfl
abbrev b_Be_squarePlain : ByteArray := prog_2_method_8_code
def y_Be_squarePlain : MethodName := ⟨R_Be, "squarePlain", "(III)V"⟩
abbrev q_Be_squarePlain : Cond := .code y_Be_squarePlain b_Be_squarePlain 12 none
set_option maxRecDepth 20000 in
theorem kq_Be_squarePlain : q_Be_squarePlain ∈ wA := inT 591 rfl rfl
abbrev b_Be_addProduct : ByteArray := prog_2_method_18_code
def y_Be_addProduct : MethodName := ⟨R_Be, "addProduct", "(IIIJ)I"⟩
abbrev q_Be_addProduct : Cond := .code y_Be_addProduct b_Be_addProduct 12 (some (.int))
set_option maxRecDepth 20000 in
theorem kq_Be_addProduct : q_Be_addProduct ∈ wA := inT 597 rfl rfl
abbrev b_Be_multiplyPlain : ByteArray := prog_2_method_7_code
def y_Be_multiplyPlain : MethodName := ⟨R_Be, "multiplyPlain", "(IIIII)V"⟩
abbrev q_Be_multiplyPlain : Cond := .code y_Be_multiplyPlain b_Be_multiplyPlain 7 none
set_option maxRecDepth 20000 in
theorem kq_Be_multiplyPlain : q_Be_multiplyPlain ∈ wA := inT 601 rfl rfl
abbrev b_Be_multiplyTwice : ByteArray := prog_2_method_9_code
def y_Be_multiplyTwice : MethodName := ⟨R_Be, "multiplyTwice", "(IIIIIII)V"⟩
abbrev q_Be_multiplyTwice : Cond := .code y_Be_multiplyTwice b_Be_multiplyTwice 10 none
set_option maxRecDepth 20000 in
theorem kq_Be_multiplyTwice : q_Be_multiplyTwice ∈ wA := inT 605 rfl rfl
abbrev b_Be_addInto : ByteArray := prog_2_method_20_code
def y_Be_addInto : MethodName := ⟨R_Be, "addInto", "(IIII)I"⟩
abbrev q_Be_addInto : Cond := .code y_Be_addInto b_Be_addInto 11 (some (.int))
set_option maxRecDepth 20000 in
theorem kq_Be_addInto : q_Be_addInto ∈ wA := inT 609 rfl rfl
abbrev b_Be_multiplyThrice : ByteArray := prog_2_method_10_code
def y_Be_multiplyThrice : MethodName := ⟨R_Be, "multiplyThrice", "(IIIIIII)V"⟩
abbrev q_Be_multiplyThrice : Cond := .code y_Be_multiplyThrice b_Be_multiplyThrice 15 none
set_option maxRecDepth 20000 in
theorem kq_Be_multiplyThrice : q_Be_multiplyThrice ∈ wA := inT 613 rfl rfl
abbrev b_Be_layDifference : ByteArray := prog_2_method_11_code
def y_Be_layDifference : MethodName := ⟨R_Be, "layDifference", "(IIII)Z"⟩
abbrev q_Be_layDifference : Cond := .code y_Be_layDifference b_Be_layDifference 11 (some (.boolean))
set_option maxRecDepth 20000 in
theorem kq_Be_layDifference : q_Be_layDifference ∈ wA := inT 617 rfl rfl
abbrev b_Be_takeFrom : ByteArray := prog_2_method_21_code
def y_Be_takeFrom : MethodName := ⟨R_Be, "takeFrom", "(IIII)I"⟩
abbrev q_Be_takeFrom : Cond := .code y_Be_takeFrom b_Be_takeFrom 11 (some (.int))
set_option maxRecDepth 20000 in
theorem kq_Be_takeFrom : q_Be_takeFrom ∈ wA := inT 621 rfl rfl
abbrev b_La_divide : ByteArray := method_9_code
def y_La_divide : MethodName := ⟨R_La, "divide", "(LLimbWorks;IIII[J)I"⟩
abbrev q_La_divide : Cond := .codeWith y_La_divide b_La_divide 7 (some (.int)) [(0, 14, 17, 13), (0, 14, 21, 31)]
set_option maxRecDepth 20000 in
theorem kq_La_divide : q_La_divide ∈ wA := inT 625 rfl rfl
abbrev b_Lw_divide : ByteArray := prog_1_method_8_code
def y_Lw_divide : MethodName := ⟨R_Lw, "divide", "(IIII)I"⟩
abbrev q_Lw_divide : Cond := .code y_Lw_divide b_Lw_divide 9 (some (.int))
set_option maxRecDepth 20000 in
theorem kq_Lw_divide : q_Lw_divide ∈ wA := inT 629 rfl rfl
abbrev b_Be_putQuotient : ByteArray := prog_2_method_4_code
def y_Be_putQuotient : MethodName := ⟨R_Be, "putQuotient", "(LLimbWorks$Natural;LLimbWorks$Natural;LLimbWorks$Natural;LLimbWorks$Natural;)I"⟩
abbrev q_Be_putQuotient : Cond := .code y_Be_putQuotient b_Be_putQuotient 13 (some (.int))
set_option maxRecDepth 20000 in
theorem kq_Be_putQuotient : q_Be_putQuotient ∈ wA := inT 633 rfl rfl
abbrev b_Be_layMoved : ByteArray := prog_2_method_5_code
def y_Be_layMoved : MethodName := ⟨R_Be, "layMoved", "(ILLimbWorks$Natural;I)V"⟩
abbrev q_Be_layMoved : Cond := .code y_Be_layMoved b_Be_layMoved 7 none
set_option maxRecDepth 20000 in
theorem kq_Be_layMoved : q_Be_layMoved ∈ wA := inT 638 rfl rfl
abbrev b_Be_divideRun : ByteArray := prog_2_method_12_code
def y_Be_divideRun : MethodName := ⟨R_Be, "divideRun", "(IIIIIII)I"⟩
abbrev q_Be_divideRun : Cond := .code y_Be_divideRun b_Be_divideRun 10 (some (.int))
set_option maxRecDepth 20000 in
theorem kq_Be_divideRun : q_Be_divideRun ∈ wA := inT 642 rfl rfl
abbrev b_Be_dividePlain : ByteArray := prog_2_method_14_code
def y_Be_dividePlain : MethodName := ⟨R_Be, "dividePlain", "(IIIII)I"⟩
abbrev q_Be_dividePlain : Cond := .code y_Be_dividePlain b_Be_dividePlain 12 (some (.int))
set_option maxRecDepth 20000 in
theorem kq_Be_dividePlain : q_Be_dividePlain ∈ wA := inT 646 rfl rfl
abbrev b_Be_isNotLess : ByteArray := prog_2_method_17_code
def y_Be_isNotLess : MethodName := ⟨R_Be, "isNotLess", "(III)Z"⟩
abbrev q_Be_isNotLess : Cond := .code y_Be_isNotLess b_Be_isNotLess 5 (some (.boolean))
set_option maxRecDepth 20000 in
theorem kq_Be_isNotLess : q_Be_isNotLess ∈ wA := inT 650 rfl rfl
abbrev b_Be_guessWord : ByteArray := prog_2_method_15_code
def y_Be_guessWord : MethodName := ⟨R_Be, "guessWord", "(III)J"⟩
abbrev q_Be_guessWord : Cond := .code y_Be_guessWord b_Be_guessWord 16 (some (.long))
set_option maxRecDepth 20000 in
theorem kq_Be_guessWord : q_Be_guessWord ∈ wA := inT 654 rfl rfl
abbrev b_Be_shareOf : ByteArray := prog_2_method_16_code
def y_Be_shareOf : MethodName := ⟨R_Be, "shareOf", "(JJ)J"⟩
abbrev q_Be_shareOf : Cond := .code y_Be_shareOf b_Be_shareOf 6 (some (.long))
set_option maxRecDepth 20000 in
theorem kq_Be_shareOf : q_Be_shareOf ∈ wA := inT 657 rfl rfl
abbrev b_Be_takeProduct : ByteArray := prog_2_method_19_code
def y_Be_takeProduct : MethodName := ⟨R_Be, "takeProduct", "(IIIJ)J"⟩
abbrev q_Be_takeProduct : Cond := .code y_Be_takeProduct b_Be_takeProduct 14 (some (.long))
set_option maxRecDepth 20000 in
theorem kq_Be_takeProduct : q_Be_takeProduct ∈ wA := inT 661 rfl rfl
abbrev b_Be_divideByHead : ByteArray := prog_2_method_13_code
def y_Be_divideByHead : MethodName := ⟨R_Be, "divideByHead", "(IIIIIII)I"⟩
abbrev q_Be_divideByHead : Cond := .code y_Be_divideByHead b_Be_divideByHead 12 (some (.int))
set_option maxRecDepth 20000 in
theorem kq_Be_divideByHead : q_Be_divideByHead ∈ wA := inT 665 rfl rfl
abbrev b_Be_takeOne : ByteArray := prog_2_method_22_code
def y_Be_takeOne : MethodName := ⟨R_Be, "takeOne", "(II)I"⟩
abbrev q_Be_takeOne : Cond := .code y_Be_takeOne b_Be_takeOne 4 (some (.int))
set_option maxRecDepth 20000 in
theorem kq_Be_takeOne : q_Be_takeOne ∈ wA := inT 669 rfl rfl
abbrev b_La_power : ByteArray := method_10_code
def y_La_power : MethodName := ⟨R_La, "power", "(LLimbWorks;III[J)I"⟩
abbrev q_La_power : Cond := .codeWith y_La_power b_La_power 6 (some (.int)) [(0, 12, 15, 13), (0, 12, 19, 23)]
set_option maxRecDepth 20000 in
theorem kq_La_power : q_La_power ∈ wA := inT 673 rfl rfl
abbrev b_Lw_power : ByteArray := prog_1_method_9_code
def y_Lw_power : MethodName := ⟨R_Lw, "power", "(III)I"⟩
abbrev q_Lw_power : Cond := .code y_Lw_power b_Lw_power 6 (some (.int))
set_option maxRecDepth 20000 in
theorem kq_Lw_power : q_Lw_power ∈ wA := inT 677 rfl rfl
abbrev b_Be_putPower : ByteArray := prog_2_method_3_code
def y_Be_putPower : MethodName := ⟨R_Be, "putPower", "(LLimbWorks$Natural;LLimbWorks$Natural;I)V"⟩
abbrev q_Be_putPower : Cond := .code y_Be_putPower b_Be_putPower 5 none
set_option maxRecDepth 20000 in
theorem kq_Be_putPower : q_Be_putPower ∈ wA := inT 681 rfl rfl
abbrev b_La_root : ByteArray := method_11_code
def y_La_root : MethodName := ⟨R_La, "root", "(LLimbWorks;III[J)I"⟩
abbrev q_La_root : Cond := .codeWith y_La_root b_La_root 6 (some (.int)) [(0, 12, 15, 13)]
set_option maxRecDepth 20000 in
theorem kq_La_root : q_La_root ∈ wA := inT 688 rfl rfl
abbrev b_Lw_root : ByteArray := prog_1_method_10_code
def y_Lw_root : MethodName := ⟨R_Lw, "root", "(III)I"⟩
abbrev q_Lw_root : Cond := .code y_Lw_root b_Lw_root 6 (some (.int))
set_option maxRecDepth 20000 in
theorem kq_Lw_root : q_Lw_root ∈ wA := inT 692 rfl rfl
abbrev b_Ro_putRoot : ByteArray := prog_4_method_2_code
def y_Ro_putRoot : MethodName := ⟨R_Ro, "putRoot", "(LLimbWorks$Natural;LLimbWorks$Natural;ILLimbWorks$Bench;)V"⟩
abbrev q_Ro_putRoot : Cond := .code y_Ro_putRoot b_Ro_putRoot 10 none
set_option maxRecDepth 20000 in
theorem kq_Ro_putRoot : q_Ro_putRoot ∈ wA := inT 696 rfl rfl
abbrev b_Ro_nextLength : ByteArray := prog_4_method_3_code
def y_Ro_nextLength : MethodName := ⟨R_Ro, "nextLength", "(III)I"⟩
abbrev q_Ro_nextLength : Cond := .code y_Ro_nextLength b_Ro_nextLength 7 (some (.int))
set_option maxRecDepth 20000 in
theorem kq_Ro_nextLength : q_Ro_nextLength ∈ wA := inT 702 rfl rfl
abbrev b_Ro_layStep : ByteArray := prog_4_method_4_code
def y_Ro_layStep : MethodName := ⟨R_Ro, "layStep", "(LLimbWorks$Natural;III)V"⟩
abbrev q_Ro_layStep : Cond := .code y_Ro_layStep b_Ro_layStep 5 none
set_option maxRecDepth 20000 in
theorem kq_Ro_layStep : q_Ro_layStep ∈ wA := inT 709 rfl rfl
abbrev b_Na_scale : ByteArray := prog_3_method_14_code
def y_Na_scale : MethodName := ⟨R_Na, "scale", "(II)V"⟩
abbrev q_Na_scale : Cond := .code y_Na_scale b_Na_scale 6 none
set_option maxRecDepth 20000 in
theorem kq_Na_scale : q_Na_scale ∈ wA := inT 715 rfl rfl
abbrev b_Ro_lengthen : ByteArray := prog_4_method_5_code
def y_Ro_lengthen : MethodName := ⟨R_Ro, "lengthen", "(LLimbWorks$Natural;I)V"⟩
abbrev q_Ro_lengthen : Cond := .code y_Ro_lengthen b_Ro_lengthen 3 none
set_option maxRecDepth 20000 in
theorem kq_Ro_lengthen : q_Ro_lengthen ∈ wA := inT 720 rfl rfl
abbrev b_Na_putOnes : ByteArray := prog_3_method_12_code
def y_Na_putOnes : MethodName := ⟨R_Na, "putOnes", "(I)V"⟩
abbrev q_Na_putOnes : Cond := .code y_Na_putOnes b_Na_putOnes 3 none
set_option maxRecDepth 20000 in
theorem kq_Na_putOnes : q_Na_putOnes ∈ wA := inT 724 rfl rfl
abbrev b_Ro_lowerToFit : ByteArray := prog_4_method_6_code
def y_Ro_lowerToFit : MethodName := ⟨R_Ro, "lowerToFit", "(LLimbWorks$Natural;ILLimbWorks$Bench;)V"⟩
abbrev q_Ro_lowerToFit : Cond := .code y_Ro_lowerToFit b_Ro_lowerToFit 6 none
set_option maxRecDepth 20000 in
theorem kq_Ro_lowerToFit : q_Ro_lowerToFit ∈ wA := inT 729 rfl rfl
abbrev b_Na_takeOne : ByteArray := prog_3_method_13_code
def y_Na_takeOne : MethodName := ⟨R_Na, "takeOne", "()V"⟩
abbrev q_Na_takeOne : Cond := .code y_Na_takeOne b_Na_takeOne 3 none
set_option maxRecDepth 20000 in
theorem kq_Na_takeOne : q_Na_takeOne ∈ wA := inT 736 rfl rfl
abbrev b_La_compare : ByteArray := method_12_code
def y_La_compare : MethodName := ⟨R_La, "compare", "(LLimbWorks;II[J)I"⟩
abbrev q_La_compare : Cond := .codeWith y_La_compare b_La_compare 5 (some (.int)) [(0, 10, 13, 13)]
set_option maxRecDepth 20000 in
theorem kq_La_compare : q_La_compare ∈ wA := inT 739 rfl rfl
abbrev b_Lw_compare : ByteArray := prog_1_method_11_code
def y_Lw_compare : MethodName := ⟨R_Lw, "compare", "(II)I"⟩
abbrev q_Lw_compare : Cond := .code y_Lw_compare b_Lw_compare 3 (some (.int))
set_option maxRecDepth 20000 in
theorem kq_Lw_compare : q_Lw_compare ∈ wA := inT 743 rfl rfl
abbrev b_La_bits : ByteArray := method_13_code
def y_La_bits : MethodName := ⟨R_La, "bits", "(LLimbWorks;I[J)I"⟩
abbrev q_La_bits : Cond := .codeWith y_La_bits b_La_bits 4 (some (.int)) [(0, 9, 12, 13)]
set_option maxRecDepth 20000 in
theorem kq_La_bits : q_La_bits ∈ wA := inT 746 rfl rfl
abbrev b_Lw_bits : ByteArray := prog_1_method_12_code
def y_Lw_bits : MethodName := ⟨R_Lw, "bits", "(I)I"⟩
abbrev q_Lw_bits : Cond := .code y_Lw_bits b_Lw_bits 2 (some (.int))
set_option maxRecDepth 20000 in
theorem kq_Lw_bits : q_Lw_bits ∈ wA := inT 750 rfl rfl
abbrev b_La_word : ByteArray := method_14_code
def y_La_word : MethodName := ⟨R_La, "word", "(LLimbWorks;II[J)I"⟩
abbrev q_La_word : Cond := .codeWith y_La_word b_La_word 5 (some (.int)) [(0, 9, 12, 13)]
set_option maxRecDepth 20000 in
theorem kq_La_word : q_La_word ∈ wA := inT 753 rfl rfl
abbrev b_Lw_word : ByteArray := prog_1_method_13_code
def y_Lw_word : MethodName := ⟨R_Lw, "word", "(II)J"⟩
abbrev q_Lw_word : Cond := .code y_Lw_word b_Lw_word 4 (some (.long))
set_option maxRecDepth 20000 in
theorem kq_Lw_word : q_Lw_word ∈ wA := inT 757 rfl rfl
abbrev b_La_feed : ByteArray := method_15_code
def y_La_feed : MethodName := ⟨R_La, "feed", "(LLimbWorks;IIIII)I"⟩
abbrev q_La_feed : Cond := .codeWith y_La_feed b_La_feed 7 (some (.int)) [(0, 11, 14, 23)]
set_option maxRecDepth 20000 in
theorem kq_La_feed : q_La_feed ∈ wA := inT 761 rfl rfl
abbrev b_Lw_feed : ByteArray := prog_1_method_14_code
def y_Lw_feed : MethodName := ⟨R_Lw, "feed", "(IIIII)V"⟩
abbrev q_Lw_feed : Cond := .code y_Lw_feed b_Lw_feed 6 none
set_option maxRecDepth 20000 in
theorem kq_Lw_feed : q_Lw_feed ∈ wA := inT 765 rfl rfl
abbrev b_Lw_feedWord : ByteArray := prog_1_method_24_code
def y_Lw_feedWord : MethodName := ⟨R_Lw, "feedWord", "(I)V"⟩
abbrev q_Lw_feedWord : Cond := .code y_Lw_feedWord b_Lw_feedWord 3 none
set_option maxRecDepth 20000 in
theorem kq_Lw_feedWord : q_Lw_feedWord ∈ wA := inT 769 rfl rfl
abbrev b_La_end : ByteArray := method_16_code
def y_La_end : MethodName := ⟨R_La, "end", "(LLimbWorks;I[J)I"⟩
abbrev q_La_end : Cond := .codeWith y_La_end b_La_end 4 (some (.int)) [(0, 9, 12, 13)]
set_option maxRecDepth 20000 in
theorem kq_La_end : q_La_end ∈ wA := inT 772 rfl rfl
abbrev b_Lw_end : ByteArray := prog_1_method_15_code
def y_Lw_end : MethodName := ⟨R_Lw, "end", "(I)I"⟩
abbrev q_Lw_end : Cond := .code y_Lw_end b_Lw_end 3 (some (.int))
set_option maxRecDepth 20000 in
theorem kq_Lw_end : q_Lw_end ∈ wA := inT 776 rfl rfl
abbrev b_La_read : ByteArray := method_17_code
def y_La_read : MethodName := ⟨R_La, "read", "(LLimbWorks;II[J)I"⟩
abbrev q_La_read : Cond := .codeWith y_La_read b_La_read 5 (some (.int)) [(0, 10, 13, 13), (0, 10, 17, 67)]
set_option maxRecDepth 20000 in
theorem kq_La_read : q_La_read ∈ wA := inT 779 rfl rfl
abbrev b_Lw_read : ByteArray := prog_1_method_16_code
def y_Lw_read : MethodName := ⟨R_Lw, "read", "(II)I"⟩
abbrev q_Lw_read : Cond := .code y_Lw_read b_Lw_read 5 (some (.int))
set_option maxRecDepth 20000 in
theorem kq_Lw_read : q_Lw_read ∈ wA := inT 784 rfl rfl
abbrev b_Lw_hasDigitsAlone : ByteArray := prog_1_method_25_code
def y_Lw_hasDigitsAlone : MethodName := ⟨R_Lw, "hasDigitsAlone", "(II)Z"⟩
abbrev q_Lw_hasDigitsAlone : Cond := .code y_Lw_hasDigitsAlone b_Lw_hasDigitsAlone 4 (some (.boolean))
set_option maxRecDepth 20000 in
theorem kq_Lw_hasDigitsAlone : q_Lw_hasDigitsAlone ∈ wA := inT 788 rfl rfl
abbrev b_Lw_digitOf : ByteArray := prog_1_method_26_code
def y_Lw_digitOf : MethodName := ⟨R_Lw, "digitOf", "(I)I"⟩
abbrev q_Lw_digitOf : Cond := .code y_Lw_digitOf b_Lw_digitOf 1 (some (.int))
set_option maxRecDepth 20000 in
theorem kq_Lw_digitOf : q_Lw_digitOf ∈ wA := inT 791 rfl rfl
abbrev b_Lw_readDigits : ByteArray := prog_1_method_27_code
def y_Lw_readDigits : MethodName := ⟨R_Lw, "readDigits", "(II)V"⟩
abbrev q_Lw_readDigits : Cond := .code y_Lw_readDigits b_Lw_readDigits 8 none
set_option maxRecDepth 20000 in
theorem kq_Lw_readDigits : q_Lw_readDigits ∈ wA := inT 810 rfl rfl
abbrev b_Lw_digitsOfPiece : ByteArray := prog_1_method_28_code
def y_Lw_digitsOfPiece : MethodName := ⟨R_Lw, "digitsOfPiece", "(I)I"⟩
abbrev q_Lw_digitsOfPiece : Cond := .code y_Lw_digitsOfPiece b_Lw_digitsOfPiece 4 (some (.int))
set_option maxRecDepth 20000 in
theorem kq_Lw_digitsOfPiece : q_Lw_digitsOfPiece ∈ wA := inT 813 rfl rfl
abbrev b_Lw_powerOf : ByteArray := prog_1_method_29_code
def y_Lw_powerOf : MethodName := ⟨R_Lw, "powerOf", "(II)I"⟩
abbrev q_Lw_powerOf : Cond := .code y_Lw_powerOf b_Lw_powerOf 4 (some (.int))
set_option maxRecDepth 20000 in
theorem kq_Lw_powerOf : q_Lw_powerOf ∈ wA := inT 818 rfl rfl
abbrev b_La_write : ByteArray := method_18_code
def y_La_write : MethodName := ⟨R_La, "write", "(LLimbWorks;II[J)I"⟩
abbrev q_La_write : Cond := .codeWith y_La_write b_La_write 5 (some (.int)) [(0, 10, 13, 13), (0, 10, 17, 23)]
set_option maxRecDepth 20000 in
theorem kq_La_write : q_La_write ∈ wA := inT 822 rfl rfl
abbrev b_Lw_write : ByteArray := prog_1_method_17_code
def y_Lw_write : MethodName := ⟨R_Lw, "write", "(II)I"⟩
abbrev q_Lw_write : Cond := .code y_Lw_write b_Lw_write 7 (some (.int))
set_option maxRecDepth 20000 in
theorem kq_Lw_write : q_Lw_write ∈ wA := inT 826 rfl rfl
abbrev b_Lw_cutIntoPieces : ByteArray := prog_1_method_30_code
def y_Lw_cutIntoPieces : MethodName := ⟨R_Lw, "cutIntoPieces", "(LLimbWorks$Natural;I)I"⟩
abbrev q_Lw_cutIntoPieces : Cond := .code y_Lw_cutIntoPieces b_Lw_cutIntoPieces 4 (some (.int))
set_option maxRecDepth 20000 in
theorem kq_Lw_cutIntoPieces : q_Lw_cutIntoPieces ∈ wA := inT 831 rfl rfl
abbrev b_Na_reduce : ByteArray := prog_3_method_15_code
def y_Na_reduce : MethodName := ⟨R_Na, "reduce", "(I)I"⟩
abbrev q_Na_reduce : Cond := .code y_Na_reduce b_Na_reduce 10 (some (.int))
set_option maxRecDepth 20000 in
theorem kq_Na_reduce : q_Na_reduce ∈ wA := inT 835 rfl rfl
abbrev b_Lw_countDigits : ByteArray := prog_1_method_31_code
def y_Lw_countDigits : MethodName := ⟨R_Lw, "countDigits", "(III)I"⟩
abbrev q_Lw_countDigits : Cond := .code y_Lw_countDigits b_Lw_countDigits 7 (some (.int))
set_option maxRecDepth 20000 in
theorem kq_Lw_countDigits : q_Lw_countDigits ∈ wA := inT 839 rfl rfl
abbrev b_Lw_writeDigits : ByteArray := prog_1_method_32_code
def y_Lw_writeDigits : MethodName := ⟨R_Lw, "writeDigits", "(III)V"⟩
abbrev q_Lw_writeDigits : Cond := .code y_Lw_writeDigits b_Lw_writeDigits 7 none
set_option maxRecDepth 20000 in
theorem kq_Lw_writeDigits : q_Lw_writeDigits ∈ wA := inT 843 rfl rfl
abbrev b_La_octet : ByteArray := method_19_code
def y_La_octet : MethodName := ⟨R_La, "octet", "(LLimbWorks;I[J)I"⟩
abbrev q_La_octet : Cond := .codeWith y_La_octet b_La_octet 4 (some (.int)) [(0, 9, 12, 75)]
set_option maxRecDepth 20000 in
theorem kq_La_octet : q_La_octet ∈ wA := inT 846 rfl rfl
abbrev b_Lw_octet : ByteArray := prog_1_method_18_code
def y_Lw_octet : MethodName := ⟨R_Lw, "octet", "(I)I"⟩
abbrev q_Lw_octet : Cond := .code y_Lw_octet b_Lw_octet 2 (some (.int))
set_option maxRecDepth 20000 in
theorem kq_Lw_octet : q_Lw_octet ∈ wA := inT 851 rfl rfl
abbrev b_Mo_init : ByteArray := prog_6_method_1_code
def y_Mo_init : MethodName := ⟨R_Mo, "<init>", "()V"⟩
abbrev q_Mo_init : Cond := .code y_Mo_init b_Mo_init 2 none
set_option maxRecDepth 20000 in
theorem kq_Mo_init : q_Mo_init ∈ wA := inT 871 rfl rfl
abbrev b_Mn_init : ByteArray := prog_7_method_1_code
def y_Mn_init : MethodName := ⟨R_Mn, "<init>", "(I)V"⟩
abbrev q_Mn_init : Cond := .code y_Mn_init b_Mn_init 2 none
set_option maxRecDepth 20000 in
theorem kq_Mn_init : q_Mn_init ∈ wA := inT 878 rfl rfl
abbrev b_Mo_thrown : ByteArray := prog_6_method_29_code
def y_Mo_thrown : MethodName := ⟨R_Mo, "thrown", "()I"⟩
abbrev q_Mo_thrown : Cond := .code y_Mo_thrown b_Mo_thrown 1 (some (.int))
set_option maxRecDepth 20000 in
theorem kq_Mo_thrown : q_Mo_thrown ∈ wA := inT 938 rfl rfl
abbrev b_Mo_set : ByteArray := prog_6_method_30_code
def y_Mo_set : MethodName := ⟨R_Mo, "set", "(IJ)I"⟩
abbrev q_Mo_set : Cond := .codeWith y_Mo_set b_Mo_set 5 (some (.int)) [(5, 11, 12, 53)]
set_option maxRecDepth 20000 in
theorem kq_Mo_set : q_Mo_set ∈ wA := inT 942 rfl rfl
abbrev b_Mo_set0 : ByteArray := prog_6_method_7_code
def y_Mo_set0 : MethodName := ⟨R_Mo, "set0", "(IJ)I"⟩
abbrev q_Mo_set0 : Cond := .code y_Mo_set0 b_Mo_set0 4 (some (.int))
set_option maxRecDepth 20000 in
theorem kq_Mo_set0 : q_Mo_set0 ∈ wA := inT 947 rfl rfl
abbrev b_Mo_named : ByteArray := prog_6_method_4_code
def y_Mo_named : MethodName := ⟨R_Mo, "named", "(I)V"⟩
abbrev q_Mo_named : Cond := .code y_Mo_named b_Mo_named 1 none
set_option maxRecDepth 20000 in
theorem kq_Mo_named : q_Mo_named ∈ wA := inT 950 rfl rfl
abbrev b_Mo_in : ByteArray := prog_6_method_3_code
def y_Mo_in : MethodName := ⟨R_Mo, "in", "(III)Z"⟩
abbrev q_Mo_in : Cond := .code y_Mo_in b_Mo_in 3 (some (.boolean))
set_option maxRecDepth 20000 in
theorem kq_Mo_in : q_Mo_in ∈ wA := inT 953 rfl rfl
abbrev b_Mo_check : ByteArray := prog_6_method_2_code
def y_Mo_check : MethodName := ⟨R_Mo, "check", "(Z)V"⟩
abbrev q_Mo_check : Cond := .code y_Mo_check b_Mo_check 1 none
set_option maxRecDepth 20000 in
theorem kq_Mo_check : q_Mo_check ∈ wA := inT 956 rfl rfl
abbrev b_Mn_set_J : ByteArray := prog_7_method_3_code
def y_Mn_set_J : MethodName := ⟨R_Mn, "set", "(J)V"⟩
abbrev q_Mn_set_J : Cond := .code y_Mn_set_J b_Mn_set_J 5 none
set_option maxRecDepth 20000 in
theorem kq_Mn_set_J : q_Mn_set_J ∈ wA := inT 961 rfl rfl
abbrev b_Mo_keep : ByteArray := prog_6_method_6_code
def y_Mo_keep : MethodName := ⟨R_Mo, "keep", "(ILLimbWorksModel$Nat;)I"⟩
abbrev q_Mo_keep : Cond := .code y_Mo_keep b_Mo_keep 3 (some (.int))
set_option maxRecDepth 20000 in
theorem kq_Mo_keep : q_Mo_keep ∈ wA := inT 966 rfl rfl
abbrev b_Mn_set_N : ByteArray := prog_7_method_2_code
def y_Mn_set_N : MethodName := ⟨R_Mn, "set", "(LLimbWorksModel$Nat;)V"⟩
abbrev q_Mn_set_N : Cond := .code y_Mn_set_N b_Mn_set_N 2 none
set_option maxRecDepth 20000 in
theorem kq_Mn_set_N : q_Mn_set_N ∈ wA := inT 970 rfl rfl
abbrev b_Mn_bits : ByteArray := prog_7_method_5_code
def y_Mn_bits : MethodName := ⟨R_Mn, "bits", "()I"⟩
abbrev q_Mn_bits : Cond := .code y_Mn_bits b_Mn_bits 3 (some (.int))
set_option maxRecDepth 20000 in
theorem kq_Mn_bits : q_Mn_bits ∈ wA := inT 975 rfl rfl
abbrev b_Mo_copy : ByteArray := prog_6_method_31_code
def y_Mo_copy : MethodName := ⟨R_Mo, "copy", "(II)I"⟩
abbrev q_Mo_copy : Cond := .codeWith y_Mo_copy b_Mo_copy 4 (some (.int)) [(5, 11, 12, 53)]
set_option maxRecDepth 20000 in
theorem kq_Mo_copy : q_Mo_copy ∈ wA := inT 979 rfl rfl
abbrev b_Mo_copy0 : ByteArray := prog_6_method_8_code
def y_Mo_copy0 : MethodName := ⟨R_Mo, "copy0", "(II)I"⟩
abbrev q_Mo_copy0 : Cond := .code y_Mo_copy0 b_Mo_copy0 3 (some (.int))
set_option maxRecDepth 20000 in
theorem kq_Mo_copy0 : q_Mo_copy0 ∈ wA := inT 983 rfl rfl
abbrev b_Mo_shift : ByteArray := prog_6_method_32_code
def y_Mo_shift : MethodName := ⟨R_Mo, "shift", "(III)I"⟩
abbrev q_Mo_shift : Cond := .codeWith y_Mo_shift b_Mo_shift 5 (some (.int)) [(5, 12, 13, 53), (5, 12, 23, 66)]
set_option maxRecDepth 20000 in
theorem kq_Mo_shift : q_Mo_shift ∈ wA := inT 987 rfl rfl
abbrev b_Mo_shift0 : ByteArray := prog_6_method_9_code
def y_Mo_shift0 : MethodName := ⟨R_Mo, "shift0", "(III)I"⟩
abbrev q_Mo_shift0 : Cond := .code y_Mo_shift0 b_Mo_shift0 4 (some (.int))
set_option maxRecDepth 20000 in
theorem kq_Mo_shift0 : q_Mo_shift0 ∈ wA := inT 992 rfl rfl
abbrev b_Mo_fits : ByteArray := prog_6_method_5_code
def y_Mo_fits : MethodName := ⟨R_Mo, "fits", "(J)V"⟩
abbrev q_Mo_fits : Cond := .code y_Mo_fits b_Mo_fits 2 none
set_option maxRecDepth 20000 in
theorem kq_Mo_fits : q_Mo_fits ∈ wA := inT 997 rfl rfl
abbrev b_Mn_up : ByteArray := prog_7_method_15_code
def y_Mn_up : MethodName := ⟨R_Mn, "up", "(I)V"⟩
abbrev q_Mn_up : Cond := .code y_Mn_up b_Mn_up 7 none
set_option maxRecDepth 20000 in
theorem kq_Mn_up : q_Mn_up ∈ wA := inT 1003 rfl rfl
abbrev b_Mn_trim : ByteArray := prog_7_method_4_code
def y_Mn_trim : MethodName := ⟨R_Mn, "trim", "(I)V"⟩
abbrev q_Mn_trim : Cond := .code y_Mn_trim b_Mn_trim 2 none
set_option maxRecDepth 20000 in
theorem kq_Mn_trim : q_Mn_trim ∈ wA := inT 1007 rfl rfl
abbrev b_Mn_down : ByteArray := prog_7_method_16_code
def y_Mn_down : MethodName := ⟨R_Mn, "down", "(I)V"⟩
abbrev q_Mn_down : Cond := .code y_Mn_down b_Mn_down 7 none
set_option maxRecDepth 20000 in
theorem kq_Mn_down : q_Mn_down ∈ wA := inT 1011 rfl rfl
abbrev b_Mo_add : ByteArray := prog_6_method_33_code
def y_Mo_add : MethodName := ⟨R_Mo, "add", "(III)I"⟩
abbrev q_Mo_add : Cond := .codeWith y_Mo_add b_Mo_add 5 (some (.int)) [(5, 12, 13, 53), (5, 12, 23, 66)]
set_option maxRecDepth 20000 in
theorem kq_Mo_add : q_Mo_add ∈ wA := inT 1015 rfl rfl
abbrev b_Mo_add0 : ByteArray := prog_6_method_10_code
def y_Mo_add0 : MethodName := ⟨R_Mo, "add0", "(III)I"⟩
abbrev q_Mo_add0 : Cond := .code y_Mo_add0 b_Mo_add0 4 (some (.int))
set_option maxRecDepth 20000 in
theorem kq_Mo_add0 : q_Mo_add0 ∈ wA := inT 1019 rfl rfl
abbrev b_Mn_add_N : ByteArray := prog_7_method_9_code
def y_Mn_add_N : MethodName := ⟨R_Mn, "add", "(LLimbWorksModel$Nat;)V"⟩
abbrev q_Mn_add_N : Cond := .code y_Mn_add_N b_Mn_add_N 6 none
set_option maxRecDepth 20000 in
theorem kq_Mn_add_N : q_Mn_add_N ∈ wA := inT 1023 rfl rfl
abbrev b_Mo_subtract : ByteArray := prog_6_method_34_code
def y_Mo_subtract : MethodName := ⟨R_Mo, "subtract", "(III)I"⟩
abbrev q_Mo_subtract : Cond := .codeWith y_Mo_subtract b_Mo_subtract 5 (some (.int)) [(5, 12, 13, 53), (5, 12, 23, 109)]
set_option maxRecDepth 20000 in
theorem kq_Mo_subtract : q_Mo_subtract ∈ wA := inT 1028 rfl rfl
abbrev b_Mo_subtract0 : ByteArray := prog_6_method_11_code
def y_Mo_subtract0 : MethodName := ⟨R_Mo, "subtract0", "(III)I"⟩
abbrev q_Mo_subtract0 : Cond := .code y_Mo_subtract0 b_Mo_subtract0 4 (some (.int))
set_option maxRecDepth 20000 in
theorem kq_Mo_subtract0 : q_Mo_subtract0 ∈ wA := inT 1033 rfl rfl
abbrev b_Mn_compare : ByteArray := prog_7_method_8_code
def y_Mn_compare : MethodName := ⟨R_Mn, "compare", "(LLimbWorksModel$Nat;)I"⟩
abbrev q_Mn_compare : Cond := .code y_Mn_compare b_Mn_compare 3 (some (.int))
set_option maxRecDepth 20000 in
theorem kq_Mn_compare : q_Mn_compare ∈ wA := inT 1037 rfl rfl
abbrev b_Mn_less : ByteArray := prog_7_method_11_code
def y_Mn_less : MethodName := ⟨R_Mn, "less", "(LLimbWorksModel$Nat;)V"⟩
abbrev q_Mn_less : Cond := .code y_Mn_less b_Mn_less 5 none
set_option maxRecDepth 20000 in
theorem kq_Mn_less : q_Mn_less ∈ wA := inT 1042 rfl rfl
abbrev b_Mo_times : ByteArray := prog_6_method_35_code
def y_Mo_times : MethodName := ⟨R_Mo, "times", "(III)I"⟩
abbrev q_Mo_times : Cond := .codeWith y_Mo_times b_Mo_times 5 (some (.int)) [(5, 12, 13, 53), (5, 12, 23, 66)]
set_option maxRecDepth 20000 in
theorem kq_Mo_times : q_Mo_times ∈ wA := inT 1046 rfl rfl
abbrev b_Mo_times0 : ByteArray := prog_6_method_12_code
def y_Mo_times0 : MethodName := ⟨R_Mo, "times0", "(III)I"⟩
abbrev q_Mo_times0 : Cond := .code y_Mo_times0 b_Mo_times0 4 (some (.int))
set_option maxRecDepth 20000 in
theorem kq_Mo_times0 : q_Mo_times0 ∈ wA := inT 1050 rfl rfl
abbrev b_Mn_product : ByteArray := prog_7_method_14_code
def y_Mn_product : MethodName := ⟨R_Mn, "product", "(LLimbWorksModel$Nat;LLimbWorksModel$Nat;)V"⟩
abbrev q_Mn_product : Cond := .code y_Mn_product b_Mn_product 11 none
set_option maxRecDepth 20000 in
theorem kq_Mn_product : q_Mn_product ∈ wA := inT 1054 rfl rfl
abbrev b_Mo_divide_IIII : ByteArray := prog_6_method_36_code
def y_Mo_divide_IIII : MethodName := ⟨R_Mo, "divide", "(IIII)I"⟩
abbrev q_Mo_divide_IIII : Cond := .codeWith y_Mo_divide_IIII b_Mo_divide_IIII 6 (some (.int)) [(5, 14, 15, 53), (5, 14, 25, 109)]
set_option maxRecDepth 20000 in
theorem kq_Mo_divide_IIII : q_Mo_divide_IIII ∈ wA := inT 1059 rfl rfl
abbrev b_Mo_divide0 : ByteArray := prog_6_method_15_code
def y_Mo_divide0 : MethodName := ⟨R_Mo, "divide0", "(IIII)I"⟩
abbrev q_Mo_divide0 : Cond := .code y_Mo_divide0 b_Mo_divide0 6 (some (.int))
set_option maxRecDepth 20000 in
theorem kq_Mo_divide0 : q_Mo_divide0 ∈ wA := inT 1063 rfl rfl
abbrev b_Mo_divide_NNN : ByteArray := prog_6_method_13_code
def y_Mo_divide_NNN : MethodName := ⟨R_Mo, "divide", "(LLimbWorksModel$Nat;LLimbWorksModel$Nat;LLimbWorksModel$Nat;)V"⟩
abbrev q_Mo_divide_NNN : Cond := .code y_Mo_divide_NNN b_Mo_divide_NNN 12 none
set_option maxRecDepth 20000 in
theorem kq_Mo_divide_NNN : q_Mo_divide_NNN ∈ wA := inT 1067 rfl rfl
abbrev b_Mo_takesTooMuch : ByteArray := prog_6_method_14_code
def y_Mo_takesTooMuch : MethodName := ⟨R_Mo, "takesTooMuch", "(JII)Z"⟩
abbrev q_Mo_takesTooMuch : Cond := .code y_Mo_takesTooMuch b_Mo_takesTooMuch 11 (some (.boolean))
set_option maxRecDepth 20000 in
theorem kq_Mo_takesTooMuch : q_Mo_takesTooMuch ∈ wA := inT 1073 rfl rfl
abbrev b_Mo_power : ByteArray := prog_6_method_37_code
def y_Mo_power : MethodName := ⟨R_Mo, "power", "(III)I"⟩
abbrev q_Mo_power : Cond := .codeWith y_Mo_power b_Mo_power 5 (some (.int)) [(5, 12, 13, 53), (5, 12, 23, 66)]
set_option maxRecDepth 20000 in
theorem kq_Mo_power : q_Mo_power ∈ wA := inT 1079 rfl rfl
abbrev b_Mo_power0 : ByteArray := prog_6_method_16_code
def y_Mo_power0 : MethodName := ⟨R_Mo, "power0", "(III)I"⟩
abbrev q_Mo_power0 : Cond := .code y_Mo_power0 b_Mo_power0 4 (some (.int))
set_option maxRecDepth 20000 in
theorem kq_Mo_power0 : q_Mo_power0 ∈ wA := inT 1083 rfl rfl
abbrev b_Mo_raise : ByteArray := prog_6_method_18_code
def y_Mo_raise : MethodName := ⟨R_Mo, "raise", "(LLimbWorksModel$Nat;I)V"⟩
abbrev q_Mo_raise : Cond := .code y_Mo_raise b_Mo_raise 4 none
set_option maxRecDepth 20000 in
theorem kq_Mo_raise : q_Mo_raise ∈ wA := inT 1087 rfl rfl
abbrev b_Ji_numberOfLeadingZeros : ByteArray := prog_14_method_47_code
def y_Ji_numberOfLeadingZeros : MethodName := ⟨R_Ji, "numberOfLeadingZeros", "(I)I"⟩
abbrev q_Ji_numberOfLeadingZeros : Cond := .code y_Ji_numberOfLeadingZeros b_Ji_numberOfLeadingZeros 2 (some (.int))
set_option maxRecDepth 20000 in
theorem kq_Ji_numberOfLeadingZeros : q_Ji_numberOfLeadingZeros ∈ wA := inT 1090 rfl rfl
abbrev b_Mo_root : ByteArray := prog_6_method_38_code
def y_Mo_root : MethodName := ⟨R_Mo, "root", "(III)I"⟩
abbrev q_Mo_root : Cond := .codeWith y_Mo_root b_Mo_root 5 (some (.int)) [(5, 12, 13, 53)]
set_option maxRecDepth 20000 in
theorem kq_Mo_root : q_Mo_root ∈ wA := inT 1095 rfl rfl
abbrev b_Mo_root0 : ByteArray := prog_6_method_19_code
def y_Mo_root0 : MethodName := ⟨R_Mo, "root0", "(III)I"⟩
abbrev q_Mo_root0 : Cond := .code y_Mo_root0 b_Mo_root0 4 (some (.int))
set_option maxRecDepth 20000 in
theorem kq_Mo_root0 : q_Mo_root0 ∈ wA := inT 1099 rfl rfl
abbrev b_Mo_rootOf : ByteArray := prog_6_method_17_code
def y_Mo_rootOf : MethodName := ⟨R_Mo, "rootOf", "(I)Z"⟩
abbrev q_Mo_rootOf : Cond := .code y_Mo_rootOf b_Mo_rootOf 3 (some (.boolean))
set_option maxRecDepth 20000 in
theorem kq_Mo_rootOf : q_Mo_rootOf ∈ wA := inT 1103 rfl rfl
abbrev b_Mn_one : ByteArray := prog_7_method_17_code
def y_Mn_one : MethodName := ⟨R_Mn, "one", "(I)V"⟩
abbrev q_Mn_one : Cond := .code y_Mn_one b_Mn_one 2 none
set_option maxRecDepth 20000 in
theorem kq_Mn_one : q_Mn_one ∈ wA := inT 1107 rfl rfl
abbrev b_Mn_times : ByteArray := prog_7_method_12_code
def y_Mn_times : MethodName := ⟨R_Mn, "times", "(I)V"⟩
abbrev q_Mn_times : Cond := .code y_Mn_times b_Mn_times 7 none
set_option maxRecDepth 20000 in
theorem kq_Mn_times : q_Mn_times ∈ wA := inT 1111 rfl rfl
abbrev b_Mn_over : ByteArray := prog_7_method_13_code
def y_Mn_over : MethodName := ⟨R_Mn, "over", "(I)I"⟩
abbrev q_Mn_over : Cond := .code y_Mn_over b_Mn_over 7 (some (.int))
set_option maxRecDepth 20000 in
theorem kq_Mn_over : q_Mn_over ∈ wA := inT 1115 rfl rfl
abbrev b_Mo_compare : ByteArray := prog_6_method_39_code
def y_Mo_compare : MethodName := ⟨R_Mo, "compare", "(II)I"⟩
abbrev q_Mo_compare : Cond := .codeWith y_Mo_compare b_Mo_compare 4 (some (.int)) [(5, 11, 12, 53)]
set_option maxRecDepth 20000 in
theorem kq_Mo_compare : q_Mo_compare ∈ wA := inT 1119 rfl rfl
abbrev b_Mo_compare0 : ByteArray := prog_6_method_20_code
def y_Mo_compare0 : MethodName := ⟨R_Mo, "compare0", "(II)I"⟩
abbrev q_Mo_compare0 : Cond := .code y_Mo_compare0 b_Mo_compare0 3 (some (.int))
set_option maxRecDepth 20000 in
theorem kq_Mo_compare0 : q_Mo_compare0 ∈ wA := inT 1123 rfl rfl
abbrev b_Mo_bits : ByteArray := prog_6_method_40_code
def y_Mo_bits : MethodName := ⟨R_Mo, "bits", "(I)I"⟩
abbrev q_Mo_bits : Cond := .codeWith y_Mo_bits b_Mo_bits 3 (some (.int)) [(5, 10, 11, 53)]
set_option maxRecDepth 20000 in
theorem kq_Mo_bits : q_Mo_bits ∈ wA := inT 1127 rfl rfl
abbrev b_Mo_bits0 : ByteArray := prog_6_method_21_code
def y_Mo_bits0 : MethodName := ⟨R_Mo, "bits0", "(I)I"⟩
abbrev q_Mo_bits0 : Cond := .code y_Mo_bits0 b_Mo_bits0 2 (some (.int))
set_option maxRecDepth 20000 in
theorem kq_Mo_bits0 : q_Mo_bits0 ∈ wA := inT 1131 rfl rfl
abbrev b_Mo_word : ByteArray := prog_6_method_41_code
def y_Mo_word : MethodName := ⟨R_Mo, "word", "(II)J"⟩
abbrev q_Mo_word : Cond := .codeWith y_Mo_word b_Mo_word 4 (some (.long)) [(5, 11, 12, 53)]
set_option maxRecDepth 20000 in
theorem kq_Mo_word : q_Mo_word ∈ wA := inT 1135 rfl rfl
abbrev b_Mo_word0 : ByteArray := prog_6_method_22_code
def y_Mo_word0 : MethodName := ⟨R_Mo, "word0", "(II)J"⟩
abbrev q_Mo_word0 : Cond := .code y_Mo_word0 b_Mo_word0 6 (some (.long))
set_option maxRecDepth 20000 in
theorem kq_Mo_word0 : q_Mo_word0 ∈ wA := inT 1139 rfl rfl
abbrev b_Mn_bit : ByteArray := prog_7_method_6_code
def y_Mn_bit : MethodName := ⟨R_Mn, "bit", "(I)Z"⟩
abbrev q_Mn_bit : Cond := .code y_Mn_bit b_Mn_bit 2 (some (.boolean))
set_option maxRecDepth 20000 in
theorem kq_Mn_bit : q_Mn_bit ∈ wA := inT 1144 rfl rfl
abbrev b_Mo_feed : ByteArray := prog_6_method_42_code
def y_Mo_feed : MethodName := ⟨R_Mo, "feed", "(IIIII)V"⟩
abbrev q_Mo_feed : Cond := .codeWith y_Mo_feed b_Mo_feed 7 none [(5, 16, 19, 66)]
set_option maxRecDepth 20000 in
theorem kq_Mo_feed : q_Mo_feed ∈ wA := inT 1148 rfl rfl
abbrev b_Mo_feed0 : ByteArray := prog_6_method_23_code
def y_Mo_feed0 : MethodName := ⟨R_Mo, "feed0", "(IIIII)V"⟩
abbrev q_Mo_feed0 : Cond := .code y_Mo_feed0 b_Mo_feed0 8 none
set_option maxRecDepth 20000 in
theorem kq_Mo_feed0 : q_Mo_feed0 ∈ wA := inT 1152 rfl rfl
abbrev b_Mo_end : ByteArray := prog_6_method_43_code
def y_Mo_end : MethodName := ⟨R_Mo, "end", "(I)I"⟩
abbrev q_Mo_end : Cond := .codeWith y_Mo_end b_Mo_end 3 (some (.int)) [(5, 10, 11, 53)]
set_option maxRecDepth 20000 in
theorem kq_Mo_end : q_Mo_end ∈ wA := inT 1156 rfl rfl
abbrev b_Mo_end0 : ByteArray := prog_6_method_24_code
def y_Mo_end0 : MethodName := ⟨R_Mo, "end0", "(I)I"⟩
abbrev q_Mo_end0 : Cond := .code y_Mo_end0 b_Mo_end0 3 (some (.int))
set_option maxRecDepth 20000 in
theorem kq_Mo_end0 : q_Mo_end0 ∈ wA := inT 1160 rfl rfl
abbrev b_Mo_read : ByteArray := prog_6_method_44_code
def y_Mo_read : MethodName := ⟨R_Mo, "read", "(II)I"⟩
abbrev q_Mo_read : Cond := .codeWith y_Mo_read b_Mo_read 4 (some (.int)) [(5, 11, 12, 53), (5, 11, 21, 172)]
set_option maxRecDepth 20000 in
theorem kq_Mo_read : q_Mo_read ∈ wA := inT 1164 rfl rfl
abbrev b_Mo_read0 : ByteArray := prog_6_method_26_code
def y_Mo_read0 : MethodName := ⟨R_Mo, "read0", "(II)I"⟩
abbrev q_Mo_read0 : Cond := .code y_Mo_read0 b_Mo_read0 6 (some (.int))
set_option maxRecDepth 20000 in
theorem kq_Mo_read0 : q_Mo_read0 ∈ wA := inT 1169 rfl rfl
abbrev b_Mo_digit : ByteArray := prog_6_method_25_code
def y_Mo_digit : MethodName := ⟨R_Mo, "digit", "(II)I"⟩
abbrev q_Mo_digit : Cond := .code y_Mo_digit b_Mo_digit 3 (some (.int))
set_option maxRecDepth 20000 in
theorem kq_Mo_digit : q_Mo_digit ∈ wA := inT 1172 rfl rfl
abbrev b_Mn_add_I : ByteArray := prog_7_method_10_code
def y_Mn_add_I : MethodName := ⟨R_Mn, "add", "(I)V"⟩
abbrev q_Mn_add_I : Cond := .code y_Mn_add_I b_Mn_add_I 5 none
set_option maxRecDepth 20000 in
theorem kq_Mn_add_I : q_Mn_add_I ∈ wA := inT 1177 rfl rfl
abbrev b_Mo_write : ByteArray := prog_6_method_45_code
def y_Mo_write : MethodName := ⟨R_Mo, "write", "(II)I"⟩
abbrev q_Mo_write : Cond := .codeWith y_Mo_write b_Mo_write 4 (some (.int)) [(5, 11, 12, 53), (5, 11, 21, 66)]
set_option maxRecDepth 20000 in
theorem kq_Mo_write : q_Mo_write ∈ wA := inT 1181 rfl rfl
abbrev b_Mo_write0 : ByteArray := prog_6_method_27_code
def y_Mo_write0 : MethodName := ⟨R_Mo, "write0", "(II)I"⟩
abbrev q_Mo_write0 : Cond := .code y_Mo_write0 b_Mo_write0 6 (some (.int))
set_option maxRecDepth 20000 in
theorem kq_Mo_write0 : q_Mo_write0 ∈ wA := inT 1185 rfl rfl
abbrev b_Mo_octet : ByteArray := prog_6_method_46_code
def y_Mo_octet : MethodName := ⟨R_Mo, "octet", "(I)I"⟩
abbrev q_Mo_octet : Cond := .codeWith y_Mo_octet b_Mo_octet 3 (some (.int)) [(5, 10, 11, 180)]
set_option maxRecDepth 20000 in
theorem kq_Mo_octet : q_Mo_octet ∈ wA := inT 1189 rfl rfl
abbrev b_Mo_octet0 : ByteArray := prog_6_method_28_code
def y_Mo_octet0 : MethodName := ⟨R_Mo, "octet0", "(I)I"⟩
abbrev q_Mo_octet0 : Cond := .code y_Mo_octet0 b_Mo_octet0 2 (some (.int))
set_option maxRecDepth 20000 in
theorem kq_Mo_octet0 : q_Mo_octet0 ∈ wA := inT 1194 rfl rfl
