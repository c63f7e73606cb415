-- new int[3][5]: the machine's step, at these lengths alone; the outer row, then its inner rows
def mn_i (cI : ClassId) : Cell := { cls := cI, slots := Array.replicate 5 (.int 0), vm := .none }
def mn_o (cO : ClassId) (h : Nat) : Cell := { cls := cO, slots := Array.replicate 3 .null, vm := .none }
def mn_o1 (cO : ClassId) (h : Nat) : Cell := (mn_o cO h).setSlot 0 (.ref (h + 1))
def mn_o2 (cO : ClassId) (h : Nat) : Cell := (mn_o1 cO h).setSlot 1 (.ref (h + 2))
def mn_o3 (cO : ClassId) (h : Nat) : Cell := (mn_o2 cO h).setSlot 2 (.ref (h + 3))
def mn_A (cO cI : ClassId) (s : State) : State := (s.pushCell (mn_o cO s.heap.size)).pushCell (mn_i cI)
def mn_B (cO cI : ClassId) (s : State) : State := ((mn_A cO cI s).setCell s.heap.size (mn_o1 cO s.heap.size)).pushCell (mn_i cI)
def mn_C (cO cI : ClassId) (s : State) : State := ((mn_B cO cI s).setCell s.heap.size (mn_o2 cO s.heap.size)).pushCell (mn_i cI)
def mn_D (cO cI : ClassId) (s : State) : State := (mn_C cO cI s).setCell s.heap.size (mn_o3 cO s.heap.size)
theorem mn_s0 (cO cI : ClassId) (s : State) : (s.pushCell (mn_o cO s.heap.size)).heap.size = s.heap.size + 1 := by simp
theorem mn_sA (cO cI : ClassId) (s : State) : (mn_A cO cI s).heap.size = s.heap.size + 2 := by simp [mn_A]
theorem mn_sB (cO cI : ClassId) (s : State) : (mn_B cO cI s).heap.size = s.heap.size + 3 := by simp [mn_B, State.setCell, mn_sA]
theorem mn_sC (cO cI : ClassId) (s : State) : (mn_C cO cI s).heap.size = s.heap.size + 4 := by simp [mn_C, State.setCell, mn_sB]
theorem mn_sD (cO cI : ClassId) (s : State) : (mn_D cO cI s).heap.size = s.heap.size + 4 := by simp [mn_D, State.setCell, mn_sC]
theorem mn_hA (cO cI : ClassId) (s : State) : (mn_A cO cI s).heap[s.heap.size]? = some (mn_o cO s.heap.size) := by
  unfold mn_A
  rw [State.heap_pushCell_of_lt (h := by simp)]
  exact State.heap_pushCell_size _ _
theorem mn_hB (cO cI : ClassId) (s : State) : (mn_B cO cI s).heap[s.heap.size]? = some (mn_o1 cO s.heap.size) := by
  unfold mn_B
  rw [State.heap_pushCell_of_lt (h := by simp [State.setCell, mn_sA])]
  exact State.heap_setCell_self (mn_hA cO cI s)
theorem mn_hC (cO cI : ClassId) (s : State) : (mn_C cO cI s).heap[s.heap.size]? = some (mn_o2 cO s.heap.size) := by
  unfold mn_C
  rw [State.heap_pushCell_of_lt (h := by simp [State.setCell, mn_sB])]
  exact State.heap_setCell_self (mn_hB cO cI s)
theorem mn_hD (cO cI : ClassId) (s : State) : (mn_D cO cI s).heap[s.heap.size]? = some (mn_o3 cO s.heap.size) := State.heap_setCell_self (mn_hC cO cI s)
theorem mn_old (cO cI : ClassId) (s : State) {a : Addr} (ha : a < s.heap.size) : (mn_D cO cI s).heap[a]? = s.heap[a]? := by
  unfold mn_D
  rw [State.heap_setCell_other (Nat.ne_of_gt ha)]
  unfold mn_C
  rw [State.heap_pushCell_of_lt (h := Nat.lt_of_lt_of_le ha (by simp [State.setCell, mn_sB])), State.heap_setCell_other (Nat.ne_of_gt ha)]
  unfold mn_B
  rw [State.heap_pushCell_of_lt (h := Nat.lt_of_lt_of_le ha (by simp [State.setCell, mn_sA])), State.heap_setCell_other (Nat.ne_of_gt ha)]
  unfold mn_A
  rw [State.heap_pushCell_of_lt (h := Nat.lt_of_lt_of_le ha (by simp)), State.heap_pushCell_of_lt (h := ha)]
theorem mn_in1 (cO cI : ClassId) (s : State) : (mn_D cO cI s).heap[s.heap.size + 1]? = some (mn_i cI) := by
  unfold mn_D
  rw [State.heap_setCell_other (show s.heap.size ≠ s.heap.size + 1 by omega)]
  unfold mn_C
  rw [State.heap_pushCell_of_lt (h := by simp [State.setCell, mn_sB]), State.heap_setCell_other (show s.heap.size ≠ s.heap.size + 1 by omega)]
  unfold mn_B
  rw [State.heap_pushCell_of_lt (h := by simp [State.setCell, mn_sA]), State.heap_setCell_other (show s.heap.size ≠ s.heap.size + 1 by omega)]
  unfold mn_A
  rw [← mn_s0 cO cI s]
  exact State.heap_pushCell_size _ _
theorem mn_in2 (cO cI : ClassId) (s : State) : (mn_D cO cI s).heap[s.heap.size + 2]? = some (mn_i cI) := by
  unfold mn_D
  rw [State.heap_setCell_other (show s.heap.size ≠ s.heap.size + 2 by omega)]
  unfold mn_C
  rw [State.heap_pushCell_of_lt (h := by simp [State.setCell, mn_sB]), State.heap_setCell_other (show s.heap.size ≠ s.heap.size + 2 by omega)]
  unfold mn_B
  rw [show s.heap.size + 2 = ((mn_A cO cI s).setCell s.heap.size (mn_o1 cO s.heap.size)).heap.size by simp [State.setCell, mn_sA]]
  exact State.heap_pushCell_size _ _
theorem mn_in3 (cO cI : ClassId) (s : State) : (mn_D cO cI s).heap[s.heap.size + 3]? = some (mn_i cI) := by
  unfold mn_D
  rw [State.heap_setCell_other (show s.heap.size ≠ s.heap.size + 3 by omega)]
  unfold mn_C
  rw [show s.heap.size + 3 = ((mn_B cO cI s).setCell s.heap.size (mn_o2 cO s.heap.size)).heap.size by simp [State.setCell, mn_sB]]
  exact State.heap_pushCell_size _ _
theorem mn_vm (cO cI : ClassId) (s : State) : (mn_A cO cI s).vm = s.vm ∧ (mn_B cO cI s).vm = s.vm ∧ (mn_C cO cI s).vm = s.vm := ⟨rfl, rfl, rfl⟩
theorem mn_used (cO cI : ClassId) (s : State) : (s.pushCell (mn_o cO s.heap.size)).slotsUsed = s.slotsUsed + 3 ∧ (mn_A cO cI s).slotsUsed = s.slotsUsed + 8 ∧ (mn_B cO cI s).slotsUsed = s.slotsUsed + 13 ∧ (mn_C cO cI s).slotsUsed = s.slotsUsed + 18 := by
  refine ⟨?_, ?_, ?_, ?_⟩ <;> simp [mn_A, mn_B, mn_C, mn_o, mn_i]
section MN
variable {E : CtlPost} {e : Env} {d : Bool} {acts : List Action} {s : State}
theorem mn_row {c comp : ClassId} {k : Class} {type : FieldType} {len : Nat} {init : Value} (hk : s.vm.classes[c]? = some k) (hkind : k.kind = .array comp type) (hl : ¬ len > e.platform.arrayLengthLimit) (hh : ¬ len * componentBytes type > e.platform.maxHeapBytes) (hfit : fits type init = true) (hdef : init.isDefault = true) {Q : Addr → Pre} (h1 : s.heap.size < e.platform.maxCells) (h2 : s.slotsUsed + len ≤ e.platform.maxSlots) (hq : Q s.heap.size d acts (s.pushCell { cls := c, slots := Array.replicate len init, vm := .none })) : wp (Jvm.newArray c len init) Q E e d acts s := by
  have hall : ((Array.replicate len init).all (·.isDefault)) = true := by
    rw [Array.all_replicate]; split <;> simp [hdef]
  have hda : allocActs (Array.replicate len init) s.heap.size acts = acts := by unfold allocActs; rw [if_pos hall]
  have hfits : ∀ i v, (Array.replicate len init)[i]? = some v → s.fitsSlot c .none i v = true := by
    intro i v hv
    rw [Array.getElem?_replicate] at hv
    split at hv
    · cases hv; simp [State.fitsSlot, State.slotType?, hk, hkind, hfit]
    · cases hv
  simp only [Jvm.newArray, Jvm.arrayFits, wp_bind', W.ask, W.ite, hl, if_false, wp_pure', W.theClass, hk, hkind, hh, W.alloc, W.stop, Option.some.injEq, exists_eq_left', Array.size_replicate, hda]
  rw [if_neg (by omega)]
  exact ⟨h1, h2, hfits, hq⟩
theorem mn_five {cI cc : ClassId} {kI : Class} (hk : s.vm.classes[cI]? = some kI) (hkind : kI.kind = .array cc .int) (hl : ¬ 5 > e.platform.arrayLengthLimit) (hh : ¬ 20 > e.platform.maxHeapBytes) {Q : Addr → Pre} (h1 : s.heap.size < e.platform.maxCells) (h2 : s.slotsUsed + 5 ≤ e.platform.maxSlots) (hq : Q s.heap.size d acts (s.pushCell (mn_i cI))) : wp (multianewarray.make cI [Int32.ofInt 5]) Q E e d acts s := by
  rw [multianewarray.make]
  have hm : ¬ (Int32.ofInt 5 < 0) := by decide
  simp only [wp_bind', W.ite, hm, if_false, wp_pure', W.theClass, hk, hkind, Option.some.injEq, exists_eq_left']
  exact mn_row (len := 5) hk hkind hl hh rfl rfl h1 h2 hq
theorem mn_store {E : CtlPost} {h i : Nat} {o : Cell} {v : Nat} {cO cI : ClassId} {k : Class} (hk : s.vm.classes[cO]? = some k) (hkind : k.kind = .array cI (.array .int)) (ho : s.heap[h]? = some o) (hc : o.cls = cO) (hv : o.vm = .none) (hsz : i < o.slots.size) {Q : Unit → Pre} (hq : ∀ d' acts', Q () d' acts' (s.setCell h (o.setSlot i (.ref v)))) : wp (writeLoc h i (.ref v)) Q E e d acts s := by
  simp only [W.writeLoc]
  refine ⟨o, ho, by rw [hv]; simp, hsz, ?_, hq _ _⟩
  rw [hc, hv]
  simp [State.fitsSlot, State.slotType?, hk, hkind]
  rfl
end MN
