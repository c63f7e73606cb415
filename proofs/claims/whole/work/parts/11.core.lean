-- the abstract machine: memory as numbers in rows, one judgement AW over the kit's W
/-- the shape of a cell: an object (class; each field's kind: 0 int, 1 long, 2 this cell always, 3 some cell, 4 null), an array (kind 0 int, 1 long, 2 byte, 3 boolean, from 4 on references; length; the cells that it refers to) -/
abbrev ax_S : Type := (Nat × List (Nat × Nat)) ⊕ (Nat × Nat × List Nat)
def ax_fv (ad : Nat → Nat) (q : Nat × Nat) (x : Int) : Value := match q.1 with
  | 0 => z_i x
  | 1 => z_v x
  | 2 => .ref (ad q.2)
  | 3 => .ref (ad x.toNat)
  | _ => .null
def ax_e (cA : Nat → ClassId) (ad : Nat → Nat) (sh : ax_S) (row : Nat → Int) : va_E := match sh with
  | .inl (ci, fs) => .inr (ci, (List.range fs.length).map (fun k => ax_fv ad (fs.getD k (4, 0)) (row k)))
  | .inr (k, n, tg) => match k with
    | 0 => .inl (cA 0, n, .inl (fun i => Int32.ofInt (row i)))
    | 1 => .inl (cA 1, n, .inr (.inl (fun i => Int64.ofInt (row i))))
    | 2 => .inl (cA 2, n, .inl (fun i => Int32.ofInt (row i)))
    | 3 => .inl (cA 3, n, .inl (fun i => Int32.ofInt (row i)))
    | k => .inl (cA k, n, .inr (.inr (.inr (.inr (fun i => (tg[i]?).map ad)))))
def ax_ws (cA : Nat → ClassId) (ad : Nat → Nat) (n : Nat) (sh : Nat → ax_S) (σ : Nat → Nat → Int) : va_W := (List.range n).map (fun k => (ad k, ax_e cA ad (sh k) (σ k)))
theorem ax_ws_get {cA : Nat → ClassId} {ad : Nat → Nat} {n : Nat} {sh : Nat → ax_S} {σ : Nat → Nat → Int} {k : Nat} (h : k < n) : (ax_ws cA ad n sh σ)[k]? = some (ad k, ax_e cA ad (sh k) (σ k)) := by
  simp [ax_ws, h]
theorem ax_ws_len {cA : Nat → ClassId} {ad : Nat → Nat} {n : Nat} {sh : Nat → ax_S} {σ : Nat → Nat → Int} : (ax_ws cA ad n sh σ).length = n := by simp [ax_ws]
theorem ax_ws_some {cA : Nat → ClassId} {ad : Nat → Nat} {n : Nat} {sh : Nat → ax_S} {σ : Nat → Nat → Int} {k : Nat} {q : Nat × va_E} (h : (ax_ws cA ad n sh σ)[k]? = some q) : k < n ∧ q = (ad k, ax_e cA ad (sh k) (σ k)) := by
  have hk : k < n := by
    have := (List.getElem?_eq_some_iff.mp h).1
    rw [ax_ws_len] at this
    exact this
  rw [ax_ws_get hk] at h
  exact ⟨hk, (Option.some.inj h).symm⟩
theorem ax_ws_set {cA : Nat → ClassId} {ad : Nat → Nat} {n : Nat} {sh : Nat → ax_S} {σ τ : Nat → Nat → Int} {a : Nat} {e : va_E} (he : e = ax_e cA ad (sh a) (τ a)) (ho : ∀ c, c ≠ a → τ c = σ c) : (ax_ws cA ad n sh σ).set a (ad a, e) = ax_ws cA ad n sh τ := by
  refine List.ext_getElem? fun k => ?_
  rw [List.getElem?_set]
  by_cases h : a = k
  · subst h
    rw [if_pos rfl, ax_ws_len]
    by_cases h2 : a < n
    · rw [if_pos h2, ax_ws_get h2, he]
    · rw [if_neg h2]
      symm
      rw [List.getElem?_eq_none_iff, ax_ws_len]
      omega
  · rw [if_neg h]
    by_cases h2 : k < n
    · rw [ax_ws_get h2, ax_ws_get h2, ho k (fun q => h q.symm)]
    · rw [List.getElem?_eq_none (by rw [ax_ws_len]; omega), List.getElem?_eq_none (by rw [ax_ws_len]; omega)]
/-- each number is in the range of its place -/
def ax_R (sh : ax_S) (row : Nat → Int) : Prop := match sh with
  | .inl (_, fs) => ∀ k, k < fs.length → ((fs.getD k (4, 0)).1 = 0 → Z_I (row k)) ∧ ((fs.getD k (4, 0)).1 = 1 → Z_L (row k))
  | .inr (k, n, _) => ∀ i, i < n → (k = 0 → Z_I (row i)) ∧ (k = 1 → Z_L (row i)) ∧ (k = 2 → -128 ≤ row i ∧ row i < 128) ∧ (k = 3 → row i = 0 ∨ row i = 1)
/-- the heap holds the memory σ in cells of the shapes sh, from bs on -/
def ax_A (bs : Nat) : Nat → Prop := fun q => bs ≤ q
def ax_P (D : va_G) (cA : Nat → ClassId) (ad : Nat → Nat) (bs n : Nat) (sh : Nat → ax_S) (σ : Nat → Nat → Int) (H : Heap) : Prop := va_P D vwCl (ax_ws cA ad n sh σ) H ∧ va_D (ax_A bs) (ax_ws cA ad n sh σ) ∧ ∀ k, k < n → ax_R (sh k) (σ k)
def ax_tys (cA : Nat → ClassId) : List (ClassId × FieldType) := [(cA 0, .int), (cA 1, .long), (cA 2, .byte), (cA 3, .boolean), (cA 4, .object "SpeedDesk$Script"), (cA 5, .object "SpeedDesk$State"), (cA 6, .object "SpeedDesk$Step"), (cA 7, .array .int)]
/-- the static rows: class, name, what they hold -/
def ax_st : List (String × String × List Int) := [("SpeedDesk", "RULE_LEAST", [0, 0, 1, 0, 1, 2]), ("SpeedDesk", "RULE_MOST", [100, 20, 20, 9, 9999, 16]), ("SpeedDesk", "RULE_UNTOLD", [25, 3, 2, 0, 9999, 8]), ("SpeedDesk$Step", "NUMBERS_TOLD", [1, 2, 3, 1, 1, 1, 0])]
/-- the texts' bytes, lengths; where the classes name them -/
def ax_byt : List (List Int32) := [[99, 108, 117, 115, 116, 101, 114], [112, 111, 105, 110, 116], [116, 97, 115, 107], [109, 97, 114, 103, 105, 110], [104, 111, 108, 100], [115, 108, 101, 101, 112], [98, 111, 111, 115, 116], [108, 105, 109, 105, 116], [99, 111, 111, 108], [116, 105, 99, 107], [109, 111, 118, 101], [97, 115, 107], [100, 114, 111, 112], [115, 116, 111, 112], [115, 116, 97, 114, 116], [115, 101, 116, 116, 108, 101], [99, 108, 117, 115, 116, 101, 114, 32, 112, 111, 105, 110, 116, 32, 116, 97, 115, 107, 32, 109, 97, 114, 103, 105, 110, 32, 104, 111, 108, 100, 32, 115, 108, 101, 101, 112, 32, 98, 111, 111, 115, 116, 32, 108, 105, 109, 105, 116, 32, 99, 111, 111, 108, 32, 116, 105, 99, 107, 32, 109, 111, 118, 101, 32, 97, 115, 107, 32, 100, 114, 111, 112, 32, 115, 116, 111, 112, 32, 115, 116, 97, 114, 116, 32, 115, 101, 116, 116, 108, 101, 32]]
def ax_tl : List Nat := [7, 5, 4, 6, 4, 5, 5, 5, 4, 4, 4, 3, 4, 4, 5, 6, 91]
def ax_sr : List (String × Nat × String × Nat) := [("SpeedDesk$Texts", 187, "cluster", 0), ("SpeedDesk$Texts", 189, "point", 1), ("SpeedDesk$Texts", 191, "task", 2), ("SpeedDesk$Texts", 193, "margin", 3), ("SpeedDesk$Texts", 195, "hold", 4), ("SpeedDesk$Texts", 197, "sleep", 5), ("SpeedDesk$Texts", 199, "boost", 6), ("SpeedDesk$Texts", 201, "limit", 7), ("SpeedDesk$Texts", 203, "cool", 8), ("SpeedDesk$Texts", 205, "tick", 9), ("SpeedDesk$Texts", 207, "move", 10), ("SpeedDesk$Texts", 209, "ask", 11), ("SpeedDesk$Texts", 211, "drop", 12), ("SpeedDesk$Texts", 213, "stop", 13), ("SpeedDesk$Texts", 215, "start", 14), ("SpeedDesk$Texts", 217, "settle", 15), ("SpeedDeskModel", 150, "cluster point task margin hold sleep boost limit cool tick move ask drop stop start settle ", 16)]
/-- what lies below the world: the static rows at the addresses sa 0 .., the texts at sa 4 .., their bytes at sa 21 .. -/
def ax_E (sa : Nat → Nat) (bs : Nat) (U : State) : Prop := (∀ (i : Nat) (q : String × String × List Int), ax_st[i]? = some q → va_Z q.1 q.2.1 "[I" (.ref (sa i)) (ax_A bs) U U.heap ∧ va_T .int (sa i) q.2.2.length (fun j => z_i (q.2.2.getD j 0)) (ax_A bs) U U.heap) ∧
  va_Z "java/lang/String" "COMPACT_STRINGS" "Z" (.int 1) (ax_A bs) U U.heap ∧ va_Zq "jdk/internal/util/Preconditions" "SIOOBE_FORMATTER" "Ljava/util/function/BiFunction;" (ax_A bs) U U.heap ∧ vk_S 17 ax_tl ax_byt (fun i => sa (4 + i)) (fun i => sa (21 + i)) (ax_A bs) U U.heap
/-- what is known of the tables and of what lies below -/
def ax_F (D : va_G) (cA : Nat → ClassId) (sa : Nat → Nat) (bs : Nat) (U : State) : Prop := va_K D vwCl (ax_tys cA) U ∧ (∀ w ∈ ax_N, va_Nw w U) ∧ ax_E sa bs U ∧ ∀ q ∈ ax_sr, vk_R q.1 q.2.1 q.2.2.1 (sa (4 + q.2.2.2)) U
theorem ax_E.go {sa : Nat → Nat} {bs : Nat} {u U : State} (hvm : u.vm.Alike U.vm) (hq : ∀ a : Nat, a < u.heap.size → ¬ ax_A bs a → U.heap[a]? = u.heap[a]?) (h : ax_E sa bs u) : ax_E sa bs U := by
  refine ⟨fun i q hi => ?_, (h.2.1.kept hq).moved hvm, (h.2.2.1.kept hq).moved hvm, (h.2.2.2.kept hq).moved hvm⟩
  obtain ⟨h1, h2⟩ := h.1 i q hi
  exact ⟨(h1.kept hq).moved hvm, (h2.kept hq).moved hvm⟩
theorem ax_F.calling {D : va_G} {cA : Nat → ClassId} {sa : Nat → Nat} {bs : Nat} {U : State} {g : JFrame} {mk : MethodId} {a : Array Value} (h : ax_F D cA sa bs U) : ax_F D cA sa bs (U.calling g mk a) :=
  ⟨va_K.moved (u := U) (U := U.calling g mk a) (Vm.Alike.refl U.vm) h.1, fun w hw => va_Nw.same (u := U) (U := U.calling g mk a) (ax_nest_tabs (List.mem_filter.mp hw).2) rfl (h.2.1 w hw), h.2.2.1.go (u := U) (U := U.calling g mk a) (Vm.Alike.refl U.vm) (fun _ _ _ => rfl), fun q hq => vk_R.same (u := U) (U := U.calling g mk a) rfl (h.2.2.2 q hq)⟩
theorem ax_F.warm {D : va_G} {cA : Nat → ClassId} {sa : Nat → Nat} {bs : Nat} {s U : State} {H : Heap} {locs : List Loc} (h : ax_F D cA sa bs s) (hS : va_S (ax_A bs) s.heap H locs) (hU : U.heap = H) (hW : s.WarmedH U.vm) : ax_F D cA sa bs U :=
  ⟨va_K.moved hW.alike h.1, fun w hw => ax_nest_warm (List.mem_filter.mp hw).2 hW (h.2.1 w hw), h.2.2.1.go hW.alike (fun a h1 h2 => by rw [hU]; exact hS.2.1 a h1 h2), fun q hq => vk_R.warm hW (h.2.2.2 q hq)⟩
/-- a method's room: d calls deep -/
abbrev ax_rm (d mc ms : Nat) : Room := { frames := d, cells := mc, slots := ms, locals := 40 * d }
/-- what stands fast in a method's body -/
def AX (p : Program) (s : State) (m : MethodId) (args : Array Value) (meth : Method) (c : Code) (D : va_G) (cA : Nat → ClassId) (sa : Nat → Nat) (bs : Nat) (cc : ByteArray) (nL : Nat) (own : String) : Prop :=
  p.tables.exec = Jvm.exec ∧ c.code = cc ∧ c.maxLocals = nL ∧ s.vm.findClass own = some m.cls ∧ (∀ w ∈ ax_T, w.before args s = true) ∧ ax_F D cA sa bs s ∧ meth.locks = false
/-- the machine at pc, with these locals and this stack, in this memory, comes to Q -/
def AW (p : Program) (l : Launch) (e : Env) (R : Room) (s : State) (m : MethodId) (args : Array Value) (below : List Frame) (meth : Method) (c : Code) (D : va_G) (cA : Nat → ClassId) (ad : Nat → Nat) (bs n : Nat) (sh : Nat → ax_S) (kc ks : Nat) (Q : State → Prop) (nL pc : Nat) (lv : List (Nat × Value)) (st : List Value) (σ : Nat → Nat → Int) : Prop :=
  ∀ (H : Heap) (locs : List Loc), ax_P D cA ad bs n sh σ H → va_S (ax_A bs) s.heap H locs → ∀ ls : Array Slot, lv_has ls nL lv → W p l e R s m args below meth c H locs kc ks Q (F0 m pc ls st)
section AWR
variable {p : Program} {l : Launch} {e : Env} {R : Room} {s : State} {m : MethodId} {args : Array Value} {below : List Frame} {meth : Method} {c : Code} {D : va_G} {cA : Nat → ClassId} {sa : Nat → Nat} {ad : Nat → Nat} {bs n kc ks : Nat} {sh : Nat → ax_S} {Q : State → Prop} {cc : ByteArray} {nL pc : Nat} {own : String} {lv : List (Nat × Value)} {st : List Value} {σ : Nat → Nat → Int}
theorem aw_iconst (X : AX p s m args meth c D cA sa bs cc nL own) {x : Int} (d : decode cc pc = .ok (.iconst x, 1)) (k : AW p l e R s m args below meth c D cA ad bs n sh kc ks Q nL (pc + 1) lv (z_i x :: st) σ) : AW p l e R s m args below meth c D cA ad bs n sh kc ks Q nL pc lv st σ :=
  fun H locs hP hS ls hl => lv_iconst X.1 X.2.1 d rfl (k H locs hP hS ls hl)
theorem aw_bipush (X : AX p s m args meth c D cA sa bs cc nL own) {x : Int} (d : decode cc pc = .ok (.bipush x, 2)) (hv : (Int8.ofInt x).toInt32 = Int32.ofInt x) (k : AW p l e R s m args below meth c D cA ad bs n sh kc ks Q nL (pc + 2) lv (z_i x :: st) σ) : AW p l e R s m args below meth c D cA ad bs n sh kc ks Q nL pc lv st σ :=
  fun H locs hP hS ls hl => lv_bipush X.1 X.2.1 d hv (k H locs hP hS ls hl)
theorem aw_sipush (X : AX p s m args meth c D cA sa bs cc nL own) {x : Int} (d : decode cc pc = .ok (.sipush x, 3)) (hv : (Int16.ofInt x).toInt32 = Int32.ofInt x) (k : AW p l e R s m args below meth c D cA ad bs n sh kc ks Q nL (pc + 3) lv (z_i x :: st) σ) : AW p l e R s m args below meth c D cA ad bs n sh kc ks Q nL pc lv st σ :=
  fun H locs hP hS ls hl => lv_sipush X.1 X.2.1 d hv (k H locs hP hS ls hl)
theorem aw_lconst (X : AX p s m args meth c D cA sa bs cc nL own) {k0 : Fin 2} {x : Int} (d : decode cc pc = .ok (.lconst k0, 1)) (hv : Int64.ofNat (k0 : Nat) = Int64.ofInt x) (k : AW p l e R s m args below meth c D cA ad bs n sh kc ks Q nL (pc + 1) lv (z_v x :: st) σ) : AW p l e R s m args below meth c D cA ad bs n sh kc ks Q nL pc lv st σ :=
  fun H locs hP hS ls hl => lv_lconst X.1 X.2.1 d hv (k H locs hP hS ls hl)
theorem aw_ldc (X : AX p s m args meth c D cA sa bs cc nL own) {ix : Nat} {v : Int32} {x : Int} (d : decode cc pc = .ok (.ldc ix, 2)) (hw : Cond.constant own ix v ∈ ax_T) (hv : v = Int32.ofInt x) (k : AW p l e R s m args below meth c D cA ad bs n sh kc ks Q nL (pc + 2) lv (z_i x :: st) σ) : AW p l e R s m args below meth c D cA ad bs n sh kc ks Q nL pc lv st σ :=
  fun H locs hP hS ls hl => by
    subst hv
    exact lv_ldc X.1 X.2.1 X.2.2.2.1 (X.2.2.2.2.1 _ hw) d (k H locs hP hS ls hl)
theorem aw_ldcw (X : AX p s m args meth c D cA sa bs cc nL own) {ix : Nat} {v : Int32} {x : Int} (d : decode cc pc = .ok (.ldc_w ix, 3)) (hw : Cond.constant own ix v ∈ ax_T) (hv : v = Int32.ofInt x) (k : AW p l e R s m args below meth c D cA ad bs n sh kc ks Q nL (pc + 3) lv (z_i x :: st) σ) : AW p l e R s m args below meth c D cA ad bs n sh kc ks Q nL pc lv st σ :=
  fun H locs hP hS ls hl => by
    subst hv
    exact lv_ldcw X.1 X.2.1 X.2.2.2.1 (X.2.2.2.2.1 _ hw) d (k H locs hP hS ls hl)
theorem aw_ldc2 (X : AX p s m args meth c D cA sa bs cc nL own) {ix : Nat} {v : Int64} {x : Int} (d : decode cc pc = .ok (.ldc2_w ix, 3)) (hw : Cond.constantLong own ix v ∈ ax_T) (hv : v = Int64.ofInt x) (k : AW p l e R s m args below meth c D cA ad bs n sh kc ks Q nL (pc + 3) lv (z_v x :: st) σ) : AW p l e R s m args below meth c D cA ad bs n sh kc ks Q nL pc lv st σ :=
  fun H locs hP hS ls hl => by
    subst hv
    exact lv_ldc2 X.1 X.2.1 X.2.2.2.1 (X.2.2.2.2.1 _ hw) d (k H locs hP hS ls hl)
theorem aw_iload_n (X : AX p s m args meth c D cA sa bs cc nL own) {k0 : Fin 4} {i : Nat} {x : Int32} (q : Nat) (d : decode cc pc = .ok (.iload_n k0, 1)) (hi : (k0 : Nat) = i) (hq : lv[q]? = some (i, .int x)) (k : AW p l e R s m args below meth c D cA ad bs n sh kc ks Q nL (pc + 1) lv (.int x :: st) σ) : AW p l e R s m args below meth c D cA ad bs n sh kc ks Q nL pc lv st σ :=
  fun H locs hP hS ls hl => lv_iload_n X.1 X.2.1 d hi (lv_at hl q hq) (k H locs hP hS ls hl)
theorem aw_iload (X : AX p s m args meth c D cA sa bs cc nL own) {i : Nat} {x : Int32} (q : Nat) (d : decode cc pc = .ok (.iload i, 2)) (hq : lv[q]? = some (i, .int x)) (k : AW p l e R s m args below meth c D cA ad bs n sh kc ks Q nL (pc + 2) lv (.int x :: st) σ) : AW p l e R s m args below meth c D cA ad bs n sh kc ks Q nL pc lv st σ :=
  fun H locs hP hS ls hl => lv_iload X.1 X.2.1 d (lv_at hl q hq) (k H locs hP hS ls hl)
theorem aw_lload_n (X : AX p s m args meth c D cA sa bs cc nL own) {k0 : Fin 4} {i : Nat} {x : Int64} (q : Nat) (d : decode cc pc = .ok (.lload_n k0, 1)) (hi : (k0 : Nat) = i) (hq : lv[q]? = some (i, .long x)) (k : AW p l e R s m args below meth c D cA ad bs n sh kc ks Q nL (pc + 1) lv (.long x :: st) σ) : AW p l e R s m args below meth c D cA ad bs n sh kc ks Q nL pc lv st σ :=
  fun H locs hP hS ls hl => lv_lload_n X.1 X.2.1 d hi (lv_at hl q hq) (k H locs hP hS ls hl)
theorem aw_lload (X : AX p s m args meth c D cA sa bs cc nL own) {i : Nat} {x : Int64} (q : Nat) (d : decode cc pc = .ok (.lload i, 2)) (hq : lv[q]? = some (i, .long x)) (k : AW p l e R s m args below meth c D cA ad bs n sh kc ks Q nL (pc + 2) lv (.long x :: st) σ) : AW p l e R s m args below meth c D cA ad bs n sh kc ks Q nL pc lv st σ :=
  fun H locs hP hS ls hl => lv_lload X.1 X.2.1 d (lv_at hl q hq) (k H locs hP hS ls hl)
theorem aw_aload_n (X : AX p s m args meth c D cA sa bs cc nL own) {k0 : Fin 4} {i a : Nat} (q : Nat) (d : decode cc pc = .ok (.aload_n k0, 1)) (hi : (k0 : Nat) = i) (hq : lv[q]? = some (i, .ref a)) (k : AW p l e R s m args below meth c D cA ad bs n sh kc ks Q nL (pc + 1) lv (.ref a :: st) σ) : AW p l e R s m args below meth c D cA ad bs n sh kc ks Q nL pc lv st σ :=
  fun H locs hP hS ls hl => lv_aload_n X.1 X.2.1 d hi (lv_at hl q hq) (k H locs hP hS ls hl)
theorem aw_aload (X : AX p s m args meth c D cA sa bs cc nL own) {i a : Nat} (q : Nat) (d : decode cc pc = .ok (.aload i, 2)) (hq : lv[q]? = some (i, .ref a)) (k : AW p l e R s m args below meth c D cA ad bs n sh kc ks Q nL (pc + 2) lv (.ref a :: st) σ) : AW p l e R s m args below meth c D cA ad bs n sh kc ks Q nL pc lv st σ :=
  fun H locs hP hS ls hl => lv_aload X.1 X.2.1 d (lv_at hl q hq) (k H locs hP hS ls hl)
/-- the locals behind a store -/
abbrev ax_s1 (i : Nat) (v : Value) (lv : List (Nat × Value)) : List (Nat × Value) := (i, v) :: lv.filter (fun q => !(q.1 == i) && !(q.1 + 1 == i && q.2.category == 2))
abbrev ax_s2 (i : Nat) (v : Value) (lv : List (Nat × Value)) : List (Nat × Value) := (i, v) :: lv.filter (fun q => !(q.1 == i) && (!(q.1 == i + 1) && !(q.1 + 1 == i && q.2.category == 2)))
theorem aw_istore_n (X : AX p s m args meth c D cA sa bs cc nL own) {k0 : Fin 4} {i : Nat} {x : Int32} (lv' : List (Nat × Value)) (d : decode cc pc = .ok (.istore_n k0, 1)) (hi : (k0 : Nat) = i) (hn : i < nL) (hl' : ax_s1 i (.int x) lv = lv') (k : AW p l e R s m args below meth c D cA ad bs n sh kc ks Q nL (pc + 1) lv' st σ) : AW p l e R s m args below meth c D cA ad bs n sh kc ks Q nL pc lv (.int x :: st) σ :=
  fun H locs hP hS ls hl => lv_istore_n X.1 X.2.1 d hi hl hn hl' (fun ls' hl2 => k H locs hP hS ls' hl2)
theorem aw_istore (X : AX p s m args meth c D cA sa bs cc nL own) {i : Nat} {x : Int32} (lv' : List (Nat × Value)) (d : decode cc pc = .ok (.istore i, 2)) (hn : i < nL) (hl' : ax_s1 i (.int x) lv = lv') (k : AW p l e R s m args below meth c D cA ad bs n sh kc ks Q nL (pc + 2) lv' st σ) : AW p l e R s m args below meth c D cA ad bs n sh kc ks Q nL pc lv (.int x :: st) σ :=
  fun H locs hP hS ls hl => lv_istore X.1 X.2.1 d hl hn hl' (fun ls' hl2 => k H locs hP hS ls' hl2)
theorem aw_lstore_n (X : AX p s m args meth c D cA sa bs cc nL own) {k0 : Fin 4} {i : Nat} {x : Int64} (lv' : List (Nat × Value)) (d : decode cc pc = .ok (.lstore_n k0, 1)) (hi : (k0 : Nat) = i) (hn : i + 1 < nL) (hl' : ax_s2 i (.long x) lv = lv') (k : AW p l e R s m args below meth c D cA ad bs n sh kc ks Q nL (pc + 1) lv' st σ) : AW p l e R s m args below meth c D cA ad bs n sh kc ks Q nL pc lv (.long x :: st) σ :=
  fun H locs hP hS ls hl => lv_lstore_n X.1 X.2.1 d hi hl hn hl' (fun ls' hl2 => k H locs hP hS ls' hl2)
theorem aw_lstore (X : AX p s m args meth c D cA sa bs cc nL own) {i : Nat} {x : Int64} (lv' : List (Nat × Value)) (d : decode cc pc = .ok (.lstore i, 2)) (hn : i + 1 < nL) (hl' : ax_s2 i (.long x) lv = lv') (k : AW p l e R s m args below meth c D cA ad bs n sh kc ks Q nL (pc + 2) lv' st σ) : AW p l e R s m args below meth c D cA ad bs n sh kc ks Q nL pc lv (.long x :: st) σ :=
  fun H locs hP hS ls hl => lv_lstore X.1 X.2.1 d hl hn hl' (fun ls' hl2 => k H locs hP hS ls' hl2)
theorem aw_astore_n (X : AX p s m args meth c D cA sa bs cc nL own) {k0 : Fin 4} {i a : Nat} (lv' : List (Nat × Value)) (d : decode cc pc = .ok (.astore_n k0, 1)) (hi : (k0 : Nat) = i) (hn : i < nL) (hl' : ax_s1 i (.ref a) lv = lv') (k : AW p l e R s m args below meth c D cA ad bs n sh kc ks Q nL (pc + 1) lv' st σ) : AW p l e R s m args below meth c D cA ad bs n sh kc ks Q nL pc lv (.ref a :: st) σ :=
  fun H locs hP hS ls hl => lv_astore_n X.1 X.2.1 d hi hl hn hl' (fun ls' hl2 => k H locs hP hS ls' hl2)
theorem aw_astore (X : AX p s m args meth c D cA sa bs cc nL own) {i a : Nat} (lv' : List (Nat × Value)) (d : decode cc pc = .ok (.astore i, 2)) (hn : i < nL) (hl' : ax_s1 i (.ref a) lv = lv') (k : AW p l e R s m args below meth c D cA ad bs n sh kc ks Q nL (pc + 2) lv' st σ) : AW p l e R s m args below meth c D cA ad bs n sh kc ks Q nL pc lv (.ref a :: st) σ :=
  fun H locs hP hS ls hl => lv_astore X.1 X.2.1 d hl hn hl' (fun ls' hl2 => k H locs hP hS ls' hl2)
theorem aw_iinc (X : AX p s m args meth c D cA sa bs cc nL own) {i : Nat} {x y : Int} (q : Nat) (lv' : List (Nat × Value)) (d : decode cc pc = .ok (.iinc i y, 3)) (hq : lv[q]? = some (i, z_i x)) (hn : i < nL) (hl' : ax_s1 i (z_i (z_w (x + y))) lv = lv') (k : AW p l e R s m args below meth c D cA ad bs n sh kc ks Q nL (pc + 3) lv' st σ) : AW p l e R s m args below meth c D cA ad bs n sh kc ks Q nL pc lv st σ :=
  fun H locs hP hS ls hl => lv_iinc X.1 X.2.1 d hl hq (z_add x y) hn hl' (fun ls' hl2 => k H locs hP hS ls' hl2)
theorem aw_iadd (X : AX p s m args meth c D cA sa bs cc nL own) {x y : Int} (d : decode cc pc = .ok (.iadd, 1)) (k : AW p l e R s m args below meth c D cA ad bs n sh kc ks Q nL (pc + 1) lv (z_i (z_w (x + y)) :: st) σ) : AW p l e R s m args below meth c D cA ad bs n sh kc ks Q nL pc lv (z_i y :: z_i x :: st) σ :=
  fun H locs hP hS ls hl => lv_iadd X.1 X.2.1 d (by rw [z_add]; exact k H locs hP hS ls hl)
theorem aw_isub (X : AX p s m args meth c D cA sa bs cc nL own) {x y : Int} (d : decode cc pc = .ok (.isub, 1)) (k : AW p l e R s m args below meth c D cA ad bs n sh kc ks Q nL (pc + 1) lv (z_i (z_w (x - y)) :: st) σ) : AW p l e R s m args below meth c D cA ad bs n sh kc ks Q nL pc lv (z_i y :: z_i x :: st) σ :=
  fun H locs hP hS ls hl => lv_isub X.1 X.2.1 d (by rw [z_sub]; exact k H locs hP hS ls hl)
theorem aw_imul (X : AX p s m args meth c D cA sa bs cc nL own) {x y : Int} (d : decode cc pc = .ok (.imul, 1)) (k : AW p l e R s m args below meth c D cA ad bs n sh kc ks Q nL (pc + 1) lv (z_i (z_w (x * y)) :: st) σ) : AW p l e R s m args below meth c D cA ad bs n sh kc ks Q nL pc lv (z_i y :: z_i x :: st) σ :=
  fun H locs hP hS ls hl => lv_imul X.1 X.2.1 d (by rw [z_mul]; exact k H locs hP hS ls hl)
theorem aw_ladd (X : AX p s m args meth c D cA sa bs cc nL own) {x y : Int} (d : decode cc pc = .ok (.ladd, 1)) (k : AW p l e R s m args below meth c D cA ad bs n sh kc ks Q nL (pc + 1) lv (z_v (z_l (x + y)) :: st) σ) : AW p l e R s m args below meth c D cA ad bs n sh kc ks Q nL pc lv (z_v y :: z_v x :: st) σ :=
  fun H locs hP hS ls hl => lv_ladd X.1 X.2.1 d (by rw [z_addL]; exact k H locs hP hS ls hl)
theorem aw_lsub (X : AX p s m args meth c D cA sa bs cc nL own) {x y : Int} (d : decode cc pc = .ok (.lsub, 1)) (k : AW p l e R s m args below meth c D cA ad bs n sh kc ks Q nL (pc + 1) lv (z_v (z_l (x - y)) :: st) σ) : AW p l e R s m args below meth c D cA ad bs n sh kc ks Q nL pc lv (z_v y :: z_v x :: st) σ :=
  fun H locs hP hS ls hl => lv_lsub X.1 X.2.1 d (by rw [z_subL]; exact k H locs hP hS ls hl)
theorem aw_lmul (X : AX p s m args meth c D cA sa bs cc nL own) {x y : Int} (d : decode cc pc = .ok (.lmul, 1)) (k : AW p l e R s m args below meth c D cA ad bs n sh kc ks Q nL (pc + 1) lv (z_v (z_l (x * y)) :: st) σ) : AW p l e R s m args below meth c D cA ad bs n sh kc ks Q nL pc lv (z_v y :: z_v x :: st) σ :=
  fun H locs hP hS ls hl => lv_lmul X.1 X.2.1 d (by rw [z_mulL]; exact k H locs hP hS ls hl)
theorem aw_idiv (X : AX p s m args meth c D cA sa bs cc nL own) {x y : Int} (cx : Z_I x) (cy : Z_I y) (h0 : ¬ y = 0) (d : decode cc pc = .ok (.idiv, 1)) (k : AW p l e R s m args below meth c D cA ad bs n sh kc ks Q nL (pc + 1) lv (z_i (z_w (x.tdiv y)) :: st) σ) : AW p l e R s m args below meth c D cA ad bs n sh kc ks Q nL pc lv (z_i y :: z_i x :: st) σ :=
  fun H locs hP hS ls hl => lv_idiv X.1 X.2.1 d (fun h => h0 ((z_eq cy Z_I0).mp (h.trans z_0.symm))) (by rw [z_div cx cy]; exact k H locs hP hS ls hl)
theorem aw_irem (X : AX p s m args meth c D cA sa bs cc nL own) {x y : Int} (cx : Z_I x) (cy : Z_I y) (h0 : ¬ y = 0) (d : decode cc pc = .ok (.irem, 1)) (k : AW p l e R s m args below meth c D cA ad bs n sh kc ks Q nL (pc + 1) lv (z_i (z_w (x.tmod y)) :: st) σ) : AW p l e R s m args below meth c D cA ad bs n sh kc ks Q nL pc lv (z_i y :: z_i x :: st) σ :=
  fun H locs hP hS ls hl => lv_irem X.1 X.2.1 d (fun h => h0 ((z_eq cy Z_I0).mp (h.trans z_0.symm))) (by rw [z_rem cx cy]; exact k H locs hP hS ls hl)
theorem aw_ldiv (X : AX p s m args meth c D cA sa bs cc nL own) {x y : Int} (cx : Z_L x) (cy : Z_L y) (h0 : ¬ y = 0) (d : decode cc pc = .ok (.ldiv, 1)) (k : AW p l e R s m args below meth c D cA ad bs n sh kc ks Q nL (pc + 1) lv (z_v (z_l (x.tdiv y)) :: st) σ) : AW p l e R s m args below meth c D cA ad bs n sh kc ks Q nL pc lv (z_v y :: z_v x :: st) σ :=
  fun H locs hP hS ls hl => lv_ldiv X.1 X.2.1 d (fun h => h0 ((z_eqL cy (z_IL Z_I0)).mp (h.trans z_0L.symm))) (by rw [z_divL cx cy]; exact k H locs hP hS ls hl)
theorem aw_lrem (X : AX p s m args meth c D cA sa bs cc nL own) {x y : Int} (cx : Z_L x) (cy : Z_L y) (h0 : ¬ y = 0) (d : decode cc pc = .ok (.lrem, 1)) (k : AW p l e R s m args below meth c D cA ad bs n sh kc ks Q nL (pc + 1) lv (z_v (z_l (x.tmod y)) :: st) σ) : AW p l e R s m args below meth c D cA ad bs n sh kc ks Q nL pc lv (z_v y :: z_v x :: st) σ :=
  fun H locs hP hS ls hl => lv_lrem X.1 X.2.1 d (fun h => h0 ((z_eqL cy (z_IL Z_I0)).mp (h.trans z_0L.symm))) (by rw [z_remL cx cy]; exact k H locs hP hS ls hl)
theorem aw_iand (X : AX p s m args meth c D cA sa bs cc nL own) {x y : Int} (d : decode cc pc = .ok (.iand, 1)) (k : AW p l e R s m args below meth c D cA ad bs n sh kc ks Q nL (pc + 1) lv (z_i (z_and x y) :: st) σ) : AW p l e R s m args below meth c D cA ad bs n sh kc ks Q nL pc lv (z_i y :: z_i x :: st) σ :=
  fun H locs hP hS ls hl => lv_iand X.1 X.2.1 d (by have h := k H locs hP hS ls hl; unfold z_and at h; rw [show ∀ z : Int32, z_i z.toInt = .int z from fun z => congrArg Value.int (z_ot z)] at h; exact h)
theorem aw_ior (X : AX p s m args meth c D cA sa bs cc nL own) {x y : Int} (d : decode cc pc = .ok (.ior, 1)) (k : AW p l e R s m args below meth c D cA ad bs n sh kc ks Q nL (pc + 1) lv (z_i (z_or x y) :: st) σ) : AW p l e R s m args below meth c D cA ad bs n sh kc ks Q nL pc lv (z_i y :: z_i x :: st) σ :=
  fun H locs hP hS ls hl => lv_ior X.1 X.2.1 d (by have h := k H locs hP hS ls hl; unfold z_or at h; rw [show ∀ z : Int32, z_i z.toInt = .int z from fun z => congrArg Value.int (z_ot z)] at h; exact h)
theorem aw_ixor (X : AX p s m args meth c D cA sa bs cc nL own) {x y : Int} (d : decode cc pc = .ok (.ixor, 1)) (k : AW p l e R s m args below meth c D cA ad bs n sh kc ks Q nL (pc + 1) lv (z_i (z_xor x y) :: st) σ) : AW p l e R s m args below meth c D cA ad bs n sh kc ks Q nL pc lv (z_i y :: z_i x :: st) σ :=
  fun H locs hP hS ls hl => lv_ixor X.1 X.2.1 d (by have h := k H locs hP hS ls hl; unfold z_xor at h; rw [show ∀ z : Int32, z_i z.toInt = .int z from fun z => congrArg Value.int (z_ot z)] at h; exact h)
theorem aw_ishl (X : AX p s m args meth c D cA sa bs cc nL own) {x y : Int} (d : decode cc pc = .ok (.ishl, 1)) (k : AW p l e R s m args below meth c D cA ad bs n sh kc ks Q nL (pc + 1) lv (z_i (z_shl x y) :: st) σ) : AW p l e R s m args below meth c D cA ad bs n sh kc ks Q nL pc lv (z_i y :: z_i x :: st) σ :=
  fun H locs hP hS ls hl => lv_ishl X.1 X.2.1 d (by have h := k H locs hP hS ls hl; unfold z_shl at h; rw [show ∀ z : Int32, z_i z.toInt = .int z from fun z => congrArg Value.int (z_ot z)] at h; exact h)
theorem aw_ishr (X : AX p s m args meth c D cA sa bs cc nL own) {x y : Int} (d : decode cc pc = .ok (.ishr, 1)) (k : AW p l e R s m args below meth c D cA ad bs n sh kc ks Q nL (pc + 1) lv (z_i (z_shr x y) :: st) σ) : AW p l e R s m args below meth c D cA ad bs n sh kc ks Q nL pc lv (z_i y :: z_i x :: st) σ :=
  fun H locs hP hS ls hl => lv_ishr X.1 X.2.1 d (by have h := k H locs hP hS ls hl; unfold z_shr at h; rw [show ∀ z : Int32, z_i z.toInt = .int z from fun z => congrArg Value.int (z_ot z)] at h; exact h)
theorem aw_land (X : AX p s m args meth c D cA sa bs cc nL own) {x y : Int} (d : decode cc pc = .ok (.land, 1)) (k : AW p l e R s m args below meth c D cA ad bs n sh kc ks Q nL (pc + 1) lv (z_v (z_andL x y) :: st) σ) : AW p l e R s m args below meth c D cA ad bs n sh kc ks Q nL pc lv (z_v y :: z_v x :: st) σ :=
  fun H locs hP hS ls hl => lv_land X.1 X.2.1 d (by have h := k H locs hP hS ls hl; unfold z_andL at h; rw [show ∀ z : Int64, z_v z.toInt = .long z from fun z => congrArg Value.long (z_otL z)] at h; exact h)
theorem aw_lor (X : AX p s m args meth c D cA sa bs cc nL own) {x y : Int} (d : decode cc pc = .ok (.lor, 1)) (k : AW p l e R s m args below meth c D cA ad bs n sh kc ks Q nL (pc + 1) lv (z_v (z_orL x y) :: st) σ) : AW p l e R s m args below meth c D cA ad bs n sh kc ks Q nL pc lv (z_v y :: z_v x :: st) σ :=
  fun H locs hP hS ls hl => lv_lor X.1 X.2.1 d (by have h := k H locs hP hS ls hl; unfold z_orL at h; rw [show ∀ z : Int64, z_v z.toInt = .long z from fun z => congrArg Value.long (z_otL z)] at h; exact h)
theorem aw_iushr (X : AX p s m args meth c D cA sa bs cc nL own) {x y : Int} (d : decode cc pc = .ok (.iushr, 1)) (k : AW p l e R s m args below meth c D cA ad bs n sh kc ks Q nL (pc + 1) lv (z_i (z_ushr x y) :: st) σ) : AW p l e R s m args below meth c D cA ad bs n sh kc ks Q nL pc lv (z_i y :: z_i x :: st) σ :=
  fun H locs hP hS ls hl => lv_iushr X.1 X.2.1 d (z_ot _).symm (k H locs hP hS ls hl)
theorem aw_lshl (X : AX p s m args meth c D cA sa bs cc nL own) {x y : Int} (d : decode cc pc = .ok (.lshl, 1)) (k : AW p l e R s m args below meth c D cA ad bs n sh kc ks Q nL (pc + 1) lv (z_v (z_shlL x y) :: st) σ) : AW p l e R s m args below meth c D cA ad bs n sh kc ks Q nL pc lv (z_i y :: z_v x :: st) σ :=
  fun H locs hP hS ls hl => lv_lshl X.1 X.2.1 d (z_otL _).symm (k H locs hP hS ls hl)
theorem aw_lshr (X : AX p s m args meth c D cA sa bs cc nL own) {x y : Int} (d : decode cc pc = .ok (.lshr, 1)) (k : AW p l e R s m args below meth c D cA ad bs n sh kc ks Q nL (pc + 1) lv (z_v (z_shrL x y) :: st) σ) : AW p l e R s m args below meth c D cA ad bs n sh kc ks Q nL pc lv (z_i y :: z_v x :: st) σ :=
  fun H locs hP hS ls hl => lv_lshr X.1 X.2.1 d (z_otL _).symm (k H locs hP hS ls hl)
theorem aw_lushr (X : AX p s m args meth c D cA sa bs cc nL own) {x y : Int} (d : decode cc pc = .ok (.lushr, 1)) (k : AW p l e R s m args below meth c D cA ad bs n sh kc ks Q nL (pc + 1) lv (z_v (z_ushrL x y) :: st) σ) : AW p l e R s m args below meth c D cA ad bs n sh kc ks Q nL pc lv (z_i y :: z_v x :: st) σ :=
  fun H locs hP hS ls hl => lv_lushr X.1 X.2.1 d (z_otL _).symm (k H locs hP hS ls hl)
theorem aw_i2b (X : AX p s m args meth c D cA sa bs cc nL own) {x : Int} (d : decode cc pc = .ok (.i2b, 1)) (k : AW p l e R s m args below meth c D cA ad bs n sh kc ks Q nL (pc + 1) lv (z_i (z_byte x) :: st) σ) : AW p l e R s m args below meth c D cA ad bs n sh kc ks Q nL pc lv (z_i x :: st) σ :=
  fun H locs hP hS ls hl => lv_i2b X.1 X.2.1 d (z_ot _).symm (k H locs hP hS ls hl)
theorem aw_i2l (X : AX p s m args meth c D cA sa bs cc nL own) {x : Int} (cx : Z_I x) (d : decode cc pc = .ok (.i2l, 1)) (k : AW p l e R s m args below meth c D cA ad bs n sh kc ks Q nL (pc + 1) lv (z_v x :: st) σ) : AW p l e R s m args below meth c D cA ad bs n sh kc ks Q nL pc lv (z_i x :: st) σ :=
  fun H locs hP hS ls hl => lv_i2l X.1 X.2.1 d (z_i2l cx) (k H locs hP hS ls hl)
theorem aw_l2i (X : AX p s m args meth c D cA sa bs cc nL own) {x : Int} (d : decode cc pc = .ok (.l2i, 1)) (k : AW p l e R s m args below meth c D cA ad bs n sh kc ks Q nL (pc + 1) lv (z_i (z_w x) :: st) σ) : AW p l e R s m args below meth c D cA ad bs n sh kc ks Q nL pc lv (z_v x :: st) σ :=
  fun H locs hP hS ls hl => lv_l2i X.1 X.2.1 d (z_l2i x) (k H locs hP hS ls hl)
theorem aw_lcmp (X : AX p s m args meth c D cA sa bs cc nL own) {x y : Int} (cx : Z_L x) (cy : Z_L y) (d : decode cc pc = .ok (.lcmp, 1)) (k : AW p l e R s m args below meth c D cA ad bs n sh kc ks Q nL (pc + 1) lv (z_i (z_cmp x y) :: st) σ) : AW p l e R s m args below meth c D cA ad bs n sh kc ks Q nL pc lv (z_v y :: z_v x :: st) σ :=
  fun H locs hP hS ls hl => W.lcmp X.1 X.2.1 d (by rw [z_cmpE cx cy]; exact k H locs hP hS ls hl)
theorem aw_icmp_eq (X : AX p s m args meth c D cA sa bs cc nL own) {x y off : Int} {tgt : Nat} (cx : Z_I x) (cy : Z_I y) (d : decode cc pc = .ok (.if_icmp .eq off, 3)) (ht : (pc : Int) + off = (tgt : Int)) (kt : x = y → AW p l e R s m args below meth c D cA ad bs n sh kc ks Q nL tgt lv st σ) (kf : ¬ x = y → AW p l e R s m args below meth c D cA ad bs n sh kc ks Q nL (pc + 3) lv st σ) : AW p l e R s m args below meth c D cA ad bs n sh kc ks Q nL pc lv (z_i y :: z_i x :: st) σ :=
  fun H locs hP hS ls hl => lv_icmp_eq X.1 X.2.1 d ht (fun h => kt ((z_eq cx cy).mp h) H locs hP hS ls hl) (fun h => kf (fun h2 => h ((z_eq cx cy).mpr h2)) H locs hP hS ls hl)
theorem aw_if_eq (X : AX p s m args meth c D cA sa bs cc nL own) {x off : Int} {tgt : Nat} (cx : Z_I x) (d : decode cc pc = .ok (.ifCond .eq off, 3)) (ht : (pc : Int) + off = (tgt : Int)) (kt : x = 0 → AW p l e R s m args below meth c D cA ad bs n sh kc ks Q nL tgt lv st σ) (kf : ¬ x = 0 → AW p l e R s m args below meth c D cA ad bs n sh kc ks Q nL (pc + 3) lv st σ) : AW p l e R s m args below meth c D cA ad bs n sh kc ks Q nL pc lv (z_i x :: st) σ :=
  fun H locs hP hS ls hl => lv_if_eq X.1 X.2.1 d ht (fun h => kt ((z_eq cx Z_I0).mp (h.trans z_0.symm)) H locs hP hS ls hl) (fun h => kf (fun h2 => h (((z_eq cx Z_I0).mpr h2).trans z_0)) H locs hP hS ls hl)
theorem aw_icmp_ne (X : AX p s m args meth c D cA sa bs cc nL own) {x y off : Int} {tgt : Nat} (cx : Z_I x) (cy : Z_I y) (d : decode cc pc = .ok (.if_icmp .ne off, 3)) (ht : (pc : Int) + off = (tgt : Int)) (kt : ¬ x = y → AW p l e R s m args below meth c D cA ad bs n sh kc ks Q nL tgt lv st σ) (kf : x = y → AW p l e R s m args below meth c D cA ad bs n sh kc ks Q nL (pc + 3) lv st σ) : AW p l e R s m args below meth c D cA ad bs n sh kc ks Q nL pc lv (z_i y :: z_i x :: st) σ :=
  fun H locs hP hS ls hl => lv_icmp_ne X.1 X.2.1 d ht (fun h => kt (fun h2 => h ((z_eq cx cy).mpr h2)) H locs hP hS ls hl) (fun h => kf ((z_eq cx cy).mp h) H locs hP hS ls hl)
theorem aw_if_ne (X : AX p s m args meth c D cA sa bs cc nL own) {x off : Int} {tgt : Nat} (cx : Z_I x) (d : decode cc pc = .ok (.ifCond .ne off, 3)) (ht : (pc : Int) + off = (tgt : Int)) (kt : ¬ x = 0 → AW p l e R s m args below meth c D cA ad bs n sh kc ks Q nL tgt lv st σ) (kf : x = 0 → AW p l e R s m args below meth c D cA ad bs n sh kc ks Q nL (pc + 3) lv st σ) : AW p l e R s m args below meth c D cA ad bs n sh kc ks Q nL pc lv (z_i x :: st) σ :=
  fun H locs hP hS ls hl => lv_if_ne X.1 X.2.1 d ht (fun h => kt (fun h2 => h (((z_eq cx Z_I0).mpr h2).trans z_0)) H locs hP hS ls hl) (fun h => kf ((z_eq cx Z_I0).mp (h.trans z_0.symm)) H locs hP hS ls hl)
theorem aw_icmp_lt (X : AX p s m args meth c D cA sa bs cc nL own) {x y off : Int} {tgt : Nat} (cx : Z_I x) (cy : Z_I y) (d : decode cc pc = .ok (.if_icmp .lt off, 3)) (ht : (pc : Int) + off = (tgt : Int)) (kt : x < y → AW p l e R s m args below meth c D cA ad bs n sh kc ks Q nL tgt lv st σ) (kf : ¬ x < y → AW p l e R s m args below meth c D cA ad bs n sh kc ks Q nL (pc + 3) lv st σ) : AW p l e R s m args below meth c D cA ad bs n sh kc ks Q nL pc lv (z_i y :: z_i x :: st) σ :=
  fun H locs hP hS ls hl => lv_icmp_lt X.1 X.2.1 d ht (fun h => kt ((z_lt cx cy).mp h) H locs hP hS ls hl) (fun h => kf (fun h2 => h ((z_lt cx cy).mpr h2)) H locs hP hS ls hl)
theorem aw_if_lt (X : AX p s m args meth c D cA sa bs cc nL own) {x off : Int} {tgt : Nat} (cx : Z_I x) (d : decode cc pc = .ok (.ifCond .lt off, 3)) (ht : (pc : Int) + off = (tgt : Int)) (kt : x < 0 → AW p l e R s m args below meth c D cA ad bs n sh kc ks Q nL tgt lv st σ) (kf : ¬ x < 0 → AW p l e R s m args below meth c D cA ad bs n sh kc ks Q nL (pc + 3) lv st σ) : AW p l e R s m args below meth c D cA ad bs n sh kc ks Q nL pc lv (z_i x :: st) σ :=
  fun H locs hP hS ls hl => lv_if_lt X.1 X.2.1 d ht (fun h => kt ((z_lt cx Z_I0).mp (by rw [z_0]; exact h)) H locs hP hS ls hl) (fun h => kf (fun h2 => h (by have h3 := (z_lt cx Z_I0).mpr h2; rw [z_0] at h3; exact h3)) H locs hP hS ls hl)
theorem aw_icmp_ge (X : AX p s m args meth c D cA sa bs cc nL own) {x y off : Int} {tgt : Nat} (cx : Z_I x) (cy : Z_I y) (d : decode cc pc = .ok (.if_icmp .ge off, 3)) (ht : (pc : Int) + off = (tgt : Int)) (kt : y ≤ x → AW p l e R s m args below meth c D cA ad bs n sh kc ks Q nL tgt lv st σ) (kf : ¬ y ≤ x → AW p l e R s m args below meth c D cA ad bs n sh kc ks Q nL (pc + 3) lv st σ) : AW p l e R s m args below meth c D cA ad bs n sh kc ks Q nL pc lv (z_i y :: z_i x :: st) σ :=
  fun H locs hP hS ls hl => lv_icmp_ge X.1 X.2.1 d ht (fun h => kt ((z_le cy cx).mp h) H locs hP hS ls hl) (fun h => kf (fun h2 => h ((z_le cy cx).mpr h2)) H locs hP hS ls hl)
theorem aw_if_ge (X : AX p s m args meth c D cA sa bs cc nL own) {x off : Int} {tgt : Nat} (cx : Z_I x) (d : decode cc pc = .ok (.ifCond .ge off, 3)) (ht : (pc : Int) + off = (tgt : Int)) (kt : 0 ≤ x → AW p l e R s m args below meth c D cA ad bs n sh kc ks Q nL tgt lv st σ) (kf : ¬ 0 ≤ x → AW p l e R s m args below meth c D cA ad bs n sh kc ks Q nL (pc + 3) lv st σ) : AW p l e R s m args below meth c D cA ad bs n sh kc ks Q nL pc lv (z_i x :: st) σ :=
  fun H locs hP hS ls hl => lv_if_ge X.1 X.2.1 d ht (fun h => kt ((z_le Z_I0 cx).mp (by rw [z_0]; exact h)) H locs hP hS ls hl) (fun h => kf (fun h2 => h (by have h3 := (z_le Z_I0 cx).mpr h2; rw [z_0] at h3; exact h3)) H locs hP hS ls hl)
theorem aw_icmp_gt (X : AX p s m args meth c D cA sa bs cc nL own) {x y off : Int} {tgt : Nat} (cx : Z_I x) (cy : Z_I y) (d : decode cc pc = .ok (.if_icmp .gt off, 3)) (ht : (pc : Int) + off = (tgt : Int)) (kt : y < x → AW p l e R s m args below meth c D cA ad bs n sh kc ks Q nL tgt lv st σ) (kf : ¬ y < x → AW p l e R s m args below meth c D cA ad bs n sh kc ks Q nL (pc + 3) lv st σ) : AW p l e R s m args below meth c D cA ad bs n sh kc ks Q nL pc lv (z_i y :: z_i x :: st) σ :=
  fun H locs hP hS ls hl => lv_icmp_gt X.1 X.2.1 d ht (fun h => kt ((z_lt cy cx).mp h) H locs hP hS ls hl) (fun h => kf (fun h2 => h ((z_lt cy cx).mpr h2)) H locs hP hS ls hl)
theorem aw_if_gt (X : AX p s m args meth c D cA sa bs cc nL own) {x off : Int} {tgt : Nat} (cx : Z_I x) (d : decode cc pc = .ok (.ifCond .gt off, 3)) (ht : (pc : Int) + off = (tgt : Int)) (kt : 0 < x → AW p l e R s m args below meth c D cA ad bs n sh kc ks Q nL tgt lv st σ) (kf : ¬ 0 < x → AW p l e R s m args below meth c D cA ad bs n sh kc ks Q nL (pc + 3) lv st σ) : AW p l e R s m args below meth c D cA ad bs n sh kc ks Q nL pc lv (z_i x :: st) σ :=
  fun H locs hP hS ls hl => lv_if_gt X.1 X.2.1 d ht (fun h => kt ((z_lt Z_I0 cx).mp (by rw [z_0]; exact h)) H locs hP hS ls hl) (fun h => kf (fun h2 => h (by have h3 := (z_lt Z_I0 cx).mpr h2; rw [z_0] at h3; exact h3)) H locs hP hS ls hl)
theorem aw_icmp_le (X : AX p s m args meth c D cA sa bs cc nL own) {x y off : Int} {tgt : Nat} (cx : Z_I x) (cy : Z_I y) (d : decode cc pc = .ok (.if_icmp .le off, 3)) (ht : (pc : Int) + off = (tgt : Int)) (kt : x ≤ y → AW p l e R s m args below meth c D cA ad bs n sh kc ks Q nL tgt lv st σ) (kf : ¬ x ≤ y → AW p l e R s m args below meth c D cA ad bs n sh kc ks Q nL (pc + 3) lv st σ) : AW p l e R s m args below meth c D cA ad bs n sh kc ks Q nL pc lv (z_i y :: z_i x :: st) σ :=
  fun H locs hP hS ls hl => lv_icmp_le X.1 X.2.1 d ht (fun h => kt ((z_le cx cy).mp h) H locs hP hS ls hl) (fun h => kf (fun h2 => h ((z_le cx cy).mpr h2)) H locs hP hS ls hl)
theorem aw_if_le (X : AX p s m args meth c D cA sa bs cc nL own) {x off : Int} {tgt : Nat} (cx : Z_I x) (d : decode cc pc = .ok (.ifCond .le off, 3)) (ht : (pc : Int) + off = (tgt : Int)) (kt : x ≤ 0 → AW p l e R s m args below meth c D cA ad bs n sh kc ks Q nL tgt lv st σ) (kf : ¬ x ≤ 0 → AW p l e R s m args below meth c D cA ad bs n sh kc ks Q nL (pc + 3) lv st σ) : AW p l e R s m args below meth c D cA ad bs n sh kc ks Q nL pc lv (z_i x :: st) σ :=
  fun H locs hP hS ls hl => lv_if_le X.1 X.2.1 d ht (fun h => kt ((z_le cx Z_I0).mp (by rw [z_0]; exact h)) H locs hP hS ls hl) (fun h => kf (fun h2 => h (by have h3 := (z_le cx Z_I0).mpr h2; rw [z_0] at h3; exact h3)) H locs hP hS ls hl)
theorem aw_goto (X : AX p s m args meth c D cA sa bs cc nL own) {off : Int} {tgt : Nat} (d : decode cc pc = .ok (.goto off, 3)) (ht : (pc : Int) + off = (tgt : Int)) (k : AW p l e R s m args below meth c D cA ad bs n sh kc ks Q nL tgt lv st σ) : AW p l e R s m args below meth c D cA ad bs n sh kc ks Q nL pc lv st σ :=
  fun H locs hP hS ls hl => lv_goto X.1 X.2.1 d ht (k H locs hP hS ls hl)
theorem aw_dup (X : AX p s m args meth c D cA sa bs cc nL own) {va : Value} (d : decode cc pc = .ok (.dup, 1)) (hva : va.category = 1) (k : AW p l e R s m args below meth c D cA ad bs n sh kc ks Q nL (pc + 1) lv (va :: va :: st) σ) : AW p l e R s m args below meth c D cA ad bs n sh kc ks Q nL pc lv (va :: st) σ :=
  fun H locs hP hS ls hl => lv_dup X.1 X.2.1 d hva (k H locs hP hS ls hl)
theorem aw_pop (X : AX p s m args meth c D cA sa bs cc nL own) {va : Value} (d : decode cc pc = .ok (.pop, 1)) (hva : va.category = 1) (k : AW p l e R s m args below meth c D cA ad bs n sh kc ks Q nL (pc + 1) lv (st) σ) : AW p l e R s m args below meth c D cA ad bs n sh kc ks Q nL pc lv (va :: st) σ :=
  fun H locs hP hS ls hl => lv_pop X.1 X.2.1 d hva (k H locs hP hS ls hl)
theorem aw_dup_x1 (X : AX p s m args meth c D cA sa bs cc nL own) {va vb : Value} (d : decode cc pc = .ok (.dup_x1, 1)) (hva : va.category = 1) (hvb : vb.category = 1) (k : AW p l e R s m args below meth c D cA ad bs n sh kc ks Q nL (pc + 1) lv (va :: vb :: va :: st) σ) : AW p l e R s m args below meth c D cA ad bs n sh kc ks Q nL pc lv (va :: vb :: st) σ :=
  fun H locs hP hS ls hl => lv_dup_x1 X.1 X.2.1 d hva hvb (k H locs hP hS ls hl)
theorem aw_dup_x2 (X : AX p s m args meth c D cA sa bs cc nL own) {va vb vd : Value} (d : decode cc pc = .ok (.dup_x2, 1)) (hva : va.category = 1) (hvb : vb.category = 1) (hvd : vd.category = 1) (k : AW p l e R s m args below meth c D cA ad bs n sh kc ks Q nL (pc + 1) lv (va :: vb :: vd :: va :: st) σ) : AW p l e R s m args below meth c D cA ad bs n sh kc ks Q nL pc lv (va :: vb :: vd :: st) σ :=
  fun H locs hP hS ls hl => lv_dup_x2 X.1 X.2.1 d hva hvb hvd (k H locs hP hS ls hl)
theorem aw_dup2 (X : AX p s m args meth c D cA sa bs cc nL own) {va vb : Value} (d : decode cc pc = .ok (.dup2, 1)) (hva : va.category = 1) (hvb : vb.category = 1) (k : AW p l e R s m args below meth c D cA ad bs n sh kc ks Q nL (pc + 1) lv (va :: vb :: va :: vb :: st) σ) : AW p l e R s m args below meth c D cA ad bs n sh kc ks Q nL pc lv (va :: vb :: st) σ :=
  fun H locs hP hS ls hl => lv_dup2_11 X.1 X.2.1 d hva hvb (k H locs hP hS ls hl)
theorem aw_pop2 (X : AX p s m args meth c D cA sa bs cc nL own) {x : Int} (d : decode cc pc = .ok (.pop2, 1)) (k : AW p l e R s m args below meth c D cA ad bs n sh kc ks Q nL (pc + 1) lv st σ) : AW p l e R s m args below meth c D cA ad bs n sh kc ks Q nL pc lv (z_v x :: st) σ :=
  fun H locs hP hS ls hl => lv_pop2_2 X.1 X.2.1 d rfl (k H locs hP hS ls hl)
theorem aw_tabOut (X : AX p s m args meth c D cA sa bs cc nL own) {dflt lo hi x : Int} {offs : Array Int} {len tgt : Nat} (cx : Z_I x) (d : decode cc pc = .ok (.tableswitch dflt lo hi offs, len)) (h : x < lo ∨ hi < x) (ht : (pc : Int) + dflt = (tgt : Int)) (k : AW p l e R s m args below meth c D cA ad bs n sh kc ks Q nL tgt lv st σ) : AW p l e R s m args below meth c D cA ad bs n sh kc ks Q nL pc lv (z_i x :: st) σ :=
  fun H locs hP hS ls hl => lv_tableOut X.1 X.2.1 d (by rw [z_t cx]; exact h) ht (k H locs hP hS ls hl)
theorem aw_tabIn (X : AX p s m args meth c D cA sa bs cc nL own) {dflt lo hi x off : Int} {offs : Array Int} {len tgt : Nat} (cx : Z_I x) (d : decode cc pc = .ok (.tableswitch dflt lo hi offs, len)) (h1 : ¬ x < lo) (h2 : ¬ hi < x) (ho : offs[(x - lo).toNat]? = some off) (ht : (pc : Int) + off = (tgt : Int)) (k : AW p l e R s m args below meth c D cA ad bs n sh kc ks Q nL tgt lv st σ) : AW p l e R s m args below meth c D cA ad bs n sh kc ks Q nL pc lv (z_i x :: st) σ :=
  fun H locs hP hS ls hl => lv_tableIn X.1 X.2.1 d (by rw [z_t cx]; exact h1) (by rw [z_t cx]; exact h2) (by rw [z_t cx]; exact ho) ht (k H locs hP hS ls hl)
theorem aw_sub (pl : List Nat) {lv' : List (Nat × Value)} (h : lv_pick lv pl = lv') (k : AW p l e R s m args below meth c D cA ad bs n sh kc ks Q nL pc lv' st σ) : AW p l e R s m args below meth c D cA ad bs n sh kc ks Q nL pc lv st σ :=
  fun H locs hP hS ls hl => k H locs hP hS ls (lv_sub hl pl h)
theorem aw_lv {lv' : List (Nat × Value)} (h : lv = lv') (k : AW p l e R s m args below meth c D cA ad bs n sh kc ks Q nL pc lv' st σ) : AW p l e R s m args below meth c D cA ad bs n sh kc ks Q nL pc lv st σ := by
  subst h
  exact k
end AWR
