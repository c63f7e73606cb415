-- the words that every method takes with it; what a field, a call needs of the tables
/-- the words that every method takes with it -/
def ax_T : List Cond := lw_tbl.filter goodWord
theorem ax_T_good : GoodIn ax_T ax_T := fun _ h => ⟨h, good_of_word (List.mem_filter.mp h).2⟩
theorem ax_in {w : Cond} (h : w ∈ lw_tbl) (hg : goodWord w = true) : w ∈ ax_T := List.mem_filter.mpr ⟨h, hg⟩
theorem ax_at {w : Cond} (i : Nat) (h : lw_tbl[i]? = some w) (hg : goodWord w = true) : w ∈ ax_T := ax_in (List.mem_of_getElem? h) hg
/-- the words of nest mates -/
def ax_nest : Cond → Bool
  | .methodLinkNest .. => true
  | .fieldLinkNest .. => true
  | _ => false
def ax_N : List Cond := lw_tbl.filter ax_nest
theorem ax_inN {w : Cond} (i : Nat) (h : lw_tbl[i]? = some w) (hg : ax_nest w = true) : w ∈ ax_N := List.mem_filter.mpr ⟨List.mem_of_getElem? h, hg⟩
theorem ax_nest_tabs {w : Cond} (h : ax_nest w = true) : w.onTables = true := by cases w <;> first | rfl | (simp [ax_nest] at h)
theorem ax_nest_warm {w : Cond} (h : ax_nest w = true) {s U : State} (hW : s.WarmedH U.vm) (hZ : va_Nw w s) : va_Nw w U := by
  cases w <;> first | (simp [ax_nest] at h; done) | exact va_Nw.warmF hW hZ | exact va_Nw.warmM hW hZ
/-- a field's place: the class own's pool index ix is field j of class ci, which has N fields -/
def ax_fld (own : String) (ix ci j N : Nat) : Prop := ∃ (C : String) (T : u_T), vwCl[ci]? = some (C, T, N) ∧ (∀ w ∈ u_ws C T N, w ∈ ax_T) ∧ j < N ∧ Cond.fieldLink own ix (T j).1 (T j).2.1 (T j).2.2.1 ∈ ax_T
/-- .. that may be written, with values of this type -/
def ax_fldP (own : String) (ix ci j N : Nat) (ty : FieldType) : Prop := ∃ (C : String) (T : u_T) (ty0 : Nat → FieldType), vwCl[ci]? = some (C, T, N) ∧ (∀ w ∈ u_ws C T N, w ∈ ax_T) ∧ j < N ∧ Cond.fieldLink own ix (T j).1 (T j).2.1 (T j).2.2.1 ∈ ax_T ∧ (∀ k, k < N → parseFieldDescriptor (T k).2.2.1 = some (ty0 k)) ∧ (∀ a, a < N → ∀ b, b < N → a ≠ b → (T a).2.1 ≠ (T b).2.1) ∧ (T j).2.2.2 = false ∧ parseFieldDescriptor (T j).2.2.1 = some ty
abbrev ax_nm (y : MethodName) (np : Nat) : Prop := y.cls ≠ "java/lang/invoke/MethodHandle" ∧ y.cls ≠ "java/lang/invoke/VarHandle" ∧ (parseMethodDescriptor y.desc).map (fun d => d.parameters.length) = some np
/-- what an invokevirtual of y by own's pool index ix needs of the tables; an invokestatic; one of a nest mate -/
def ax_cv (own : String) (ix : Nat) (y : MethodName) (cc : ByteArray) (nL : Nat) (ret : Option FieldType) (np : Nat) : Prop := (Cond.methodLink own ix y ∈ ax_T ∧ Cond.instanceMethod y ∈ ax_T ∧ Cond.selects y.cls y y ∈ ax_T ∧ Cond.initialized y.cls ∈ ax_T ∧ Cond.code y cc nL ret ∈ ax_T) ∧ ax_nm y np
def ax_cs (own : String) (ix : Nat) (y : MethodName) (cc : ByteArray) (nL : Nat) (ret : Option FieldType) (np : Nat) : Prop := (Cond.methodLink own ix y ∈ ax_T ∧ Cond.static y ∈ ax_T ∧ Cond.initialized y.cls ∈ ax_T ∧ Cond.code y cc nL ret ∈ ax_T) ∧ ax_nm y np
def ax_cn (own : String) (ix : Nat) (y : MethodName) (host : String) (cc : ByteArray) (nL : Nat) (ret : Option FieldType) (np : Nat) : Prop := (Cond.methodLinkNest own ix y host ∈ ax_N ∧ Cond.static y ∈ ax_T ∧ Cond.initialized y.cls ∈ ax_T ∧ Cond.code y cc nL ret ∈ ax_T) ∧ ax_nm y np
