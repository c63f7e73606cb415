section MN2
variable {E : CtlPost} {e : Env} {d : Bool} {acts : List Action} {s : State}
theorem mn_make {cO cI cc : ClassId} {kO kI : Class} (hk : s.vm.classes[cO]? = some kO) (hkind : kO.kind = .array cI (.array .int)) (hkI : s.vm.classes[cI]? = some kI) (hkindI : kI.kind = .array cc .int) (hl : ¬ 5 > e.platform.arrayLengthLimit) (hh : ¬ 20 > e.platform.maxHeapBytes) (hc : s.heap.size + 4 ≤ e.platform.maxCells) (hs : s.slotsUsed + 18 ≤ e.platform.maxSlots) {Q : Addr → Pre} (hq : ∀ d' acts', Q s.heap.size d' acts' (mn_D cO cI s)) : wp (multianewarray.make cO [Int32.ofInt 3, Int32.ofInt 5]) Q E e d acts s := by
  have hm : ¬ (Int32.ofInt 3 < 0) := by decide
  have hn : (Int32.ofInt 3).toNatClampNeg = 3 := by decide
  have hz : (Int32.ofInt 3 == 0) = false := by decide
  obtain ⟨u0, u1, u2, u3⟩ := mn_used cO cI s
  rw [multianewarray.make]
  simp only [wp_bind', W.ite, hm, if_false, wp_pure', W.theClass, hk, hkind, Option.some.injEq, exists_eq_left', hn, hz, Bool.false_eq_true]
  refine mn_row (len := 3) hk hkind (by omega) (by show ¬ 12 > _; omega) rfl rfl (by omega) (by omega) ?_
  rw [wp_bind', Std.Legacy.Range.forIn_eq_forIn_range']
  have hsz : ([:3] : Std.Legacy.Range).size = 3 := rfl
  rw [hsz]
  show wp (forIn [0, 1, 2] PUnit.unit _) _ E e d acts (s.pushCell (mn_o cO s.heap.size))
  simp only [List.forIn_cons, List.forIn_nil, wp_bind']
  refine mn_five (s := s.pushCell (mn_o cO s.heap.size)) hkI hkindI hl hh (by rw [mn_s0 cO cI s]; omega) (by rw [u0]; omega) ?_
  show wp _ _ _ _ _ _ (mn_A cO cI s)
  rw [mn_s0 cO cI s]
  simp only [wp_bind']
  refine mn_store (s := mn_A cO cI s) (i := 0) (o := mn_o cO s.heap.size) hk hkind (mn_hA cO cI s) rfl rfl (by simp [mn_o]) (fun d1 a1 => ?_)
  simp only [wp_pure', wp_bind']
  refine mn_five (s := (mn_A cO cI s).setCell s.heap.size (mn_o1 cO s.heap.size)) hkI hkindI hl hh (by simp [State.setCell, mn_sA]; omega) (by simp [u1]; omega) ?_
  show wp _ _ _ _ _ _ (mn_B cO cI s)
  rw [show ((mn_A cO cI s).setCell s.heap.size (mn_o1 cO s.heap.size)).heap.size = s.heap.size + 2 by simp [State.setCell, mn_sA]]
  simp only [wp_bind']
  refine mn_store (s := mn_B cO cI s) (i := 1) (o := mn_o1 cO s.heap.size) hk hkind (mn_hB cO cI s) rfl rfl (by simp [mn_o1, mn_o, Cell.setSlot]) (fun d2 a2 => ?_)
  simp only [wp_pure', wp_bind']
  refine mn_five (s := (mn_B cO cI s).setCell s.heap.size (mn_o2 cO s.heap.size)) hkI hkindI hl hh (by simp [State.setCell, mn_sB]; omega) (by simp [u2]; omega) ?_
  show wp _ _ _ _ _ _ (mn_C cO cI s)
  rw [show ((mn_B cO cI s).setCell s.heap.size (mn_o2 cO s.heap.size)).heap.size = s.heap.size + 3 by simp [State.setCell, mn_sB]]
  simp only [wp_bind']
  refine mn_store (s := mn_C cO cI s) (i := 2) (o := mn_o2 cO s.heap.size) hk hkind (mn_hC cO cI s) rfl rfl (by simp [mn_o2, mn_o1, mn_o, Cell.setSlot]) (fun d3 a3 => ?_)
  simp only [wp_pure', wp_bind']
  exact hq _ _
end MN2
def ax_AA (U : State) : Prop := (Cond.arrayOver (.array .int)).before #[] U = true
theorem ax_AA.spec {U : State} (h : ax_AA U) : ∃ comp c k, U.vm.findClass (FieldType.array .int).toString = some comp ∧ (U.vm.classes.findIdx? fun (x : Class) => match x.kind with | .array component _ => component == comp | _ => false) = some c ∧ U.vm.classes[c]? = some k ∧ k.kind = .array comp (.array .int) ∧ U.vm.findClass ("[" ++ (FieldType.array .int).toString) = some c := by
  unfold ax_AA Cond.before at h
  simp only [Cond.holds, Cond.value, beq_iff_eq] at h
  cases hc : U.vm.findClass (FieldType.array .int).toString with
  | none => simp [hc] at h
  | some comp =>
    simp only [hc, Option.bind_some, Option.bind_eq_some_iff, Option.map_eq_some_iff] at h
    obtain ⟨c, hi, k, hk, hb⟩ := h
    obtain ⟨hlt, hp, -⟩ := Array.findIdx?_eq_some_iff_getElem.mp hi
    have hkk : U.vm.classes[c] = k := (Array.getElem?_eq_some_iff.mp hk).2
    rw [hkk] at hp
    cases hkind : k.kind with
    | array component ty =>
      rw [hkind] at hb hp
      simp at hb hp
      exact ⟨comp, c, k, rfl, hi, hk, by rw [hkind, hp, hb.1], hb.2⟩
    | _ => rw [hkind] at hb; simp at hb
theorem ax_AA.moved {u U : State} (hvm : u.vm.Alike U.vm) (h : ax_AA u) : ax_AA U := by
  obtain ⟨comp, c, k, h1, h2, h3, h4, h5⟩ := h.spec
  obtain ⟨k', hk', he⟩ := hvm.2.2 _ _ h3
  have hi : (U.vm.classes.findIdx? fun (x : Class) => match x.kind with | .array component _ => component == comp | _ => false) = some c := by
    have hb : U.vm.bare = u.vm.bare := by first | exact hvm.bare_eq | exact hvm.bare_eq.symm
    have hc : (U.vm.bare.classes.findIdx? fun (x : Class) => match x.kind with | .array component _ => component == comp | _ => false) = (u.vm.bare.classes.findIdx? fun (x : Class) => match x.kind with | .array component _ => component == comp | _ => false) := by rw [hb]
    exact (va_idx_bare U.vm comp).symm.trans (hc.trans ((va_idx_bare u.vm comp).trans h2))
  have hkind : k'.kind = .array comp (.array .int) := by rw [he]; exact h4
  have f1 : U.vm.findClass (FieldType.array .int).toString = some comp := by rw [hvm.findClass]; exact h1
  have f2 : U.vm.findClass ("[" ++ (FieldType.array .int).toString) = some c := by rw [hvm.findClass]; exact h5
  unfold ax_AA Cond.before Cond.holds
  simp only [Cond.value]
  rw [f1, Option.bind_some]
  refine (congrArg (fun o : Option Nat => (o.bind (fun c => (U.vm.classes[c]?).map fun (k : Class) => match k.kind with | .array _ ty => decide (ty = FieldType.array .int) && decide (U.vm.findClass ("[" ++ (FieldType.array .int).toString) = some c) | _ => false) == some true)) hi).trans ?_
  simp [hk', hkind, f2]
section AWN
variable {p : Program} {l : Launch} {e : Env} {R : Room} {s : State} {m : MethodId} {args : Array Value} {below : List Frame} {meth : Method} {c : Code} {D : va_G} {cA : Nat → ClassId} {sa ad : Nat → Nat} {bs n kc ks : Nat} {sh : Nat → ax_S} {Q : State → Prop} {cc : ByteArray} {nL pc : Nat} {own : String} {lv : List (Nat × Value)} {st st0 : List Value} {σ τ : Nat → Nat → Int} {T : State} {locs : List Loc} {cells slots : Nat}
theorem mn_stand (X : Stand p l e R s m args below meth c T locs cells slots) (cO cI : ClassId) : Stand p l e R s m args below meth c (mn_D cO cI T) (locs ++ [⟨T.heap.size, 0⟩] ++ [⟨T.heap.size, 1⟩] ++ [⟨T.heap.size, 2⟩]) (cells + 4) (slots + 18) := by
  have X1 := (X.pushed (mn_o cO T.heap.size)).pushed (mn_i cI)
  have X2 := (X1.stored (mn_hA cO cI T) 0 (.ref (T.heap.size + 1))).pushed (mn_i cI)
  have X3 := (X2.stored (mn_hB cO cI T) 1 (.ref (T.heap.size + 2))).pushed (mn_i cI)
  have X4 := X3.stored (mn_hC cO cI T) 2 (.ref (T.heap.size + 3))
  have e1 : (mn_o cO T.heap.size).slots.size = 3 := by simp [mn_o]
  have e2 : (mn_i cI).slots.size = 5 := by simp [mn_i]
  rw [e1, e2] at X4
  exact X4
theorem mn_step (X : Stand p l e R s m args below meth c T locs cells slots) (hexec : p.tables.exec = Jvm.exec) {own : String} {ix : Nat} (hown : s.vm.findClass own = some m.cls) (hlink : (Cond.classLink own ix "[[I").before args s = true) (hAA : ax_AA s) (harr : (Cond.arrayClass .int).before args s = true) {g : JFrame} (hg : g.method = m) (hdg : decode c.code g.pc = .ok (.multianewarray ix 2, 4)) {rest : List Value} (hstack : g.stack = .int (Int32.ofInt 5) :: .int (Int32.ofInt 3) :: rest) (hcells : cells + 4 ≤ R.cells) (hslots : slots + 18 ≤ R.slots) :
    ∃ (vm₁ : Vm) (cO cI cc : ClassId) (kO kI : Class), s.WarmedH vm₁ ∧ s.vm.findClass "[[I" = some cO ∧ s.vm.findClass "[I" = some cI ∧ s.vm.classes[cO]? = some kO ∧ kO.kind = .array cI (.array .int) ∧ s.vm.classes[cI]? = some kI ∧ kI.kind = .array cc .int ∧
      Stand p l e R s m args below meth c (mn_D cO cI (T.setVm vm₁)) (locs ++ [⟨T.heap.size, 0⟩] ++ [⟨T.heap.size, 1⟩] ++ [⟨T.heap.size, 2⟩]) (cells + 4) (slots + 18) ∧
      ∀ target, Steps p.tables e below ((mn_D cO cI (T.setVm vm₁)).setTop { g with pc := g.pc + 4, stack := .ref T.heap.size :: rest }) target → Steps p.tables e below (T.setTop g) target := by
  subst hg
  have hpl : e.platform.magicAccessors = ({} : Platform).magicAccessors := by rw [X.admits.platform]
  obtain ⟨comp, cO, kO, hcomp, -, hkO, hkindO, hnameO⟩ := hAA.spec
  obtain ⟨comp', kI, cc, hcomp', hkI, hkindI⟩ := Cond.arrayClass_spec harr
  have ecomp : comp' = comp := Option.some.inj (hcomp'.symm.trans hcomp)
  subst ecomp
  obtain ⟨c0, hfc0, hcl⟩ := Cond.classLink_spec hown hlink e.platform hpl
  cases hnameO.symm.trans hfc0
  obtain ⟨hg₁, hwarm₁, hready₁⟩ := State.classEntry (e := e) X.warmed hcl
  generalize T.vm.noted g.method.cls ix (.cls cO) = vm₁ at hg₁ hwarm₁ hready₁
  have hal : s.vm.Alike vm₁ := hwarm₁.alike
  obtain ⟨kO₁, hkO₁, heO⟩ := hal.2.2 _ _ hkO
  obtain ⟨kI₁, hkI₁, heI⟩ := hal.2.2 _ _ hkI
  have X₁ := X.noted hwarm₁
  obtain ⟨hr1, hr2⟩ := X.roomAbove hcells hslots
  refine ⟨vm₁, cO, comp', cc, kO, kI, hwarm₁, hfc0, hcomp, hkO, hkindO, hkI, hkindI, mn_stand X₁ cO comp', fun target hrest => ?_⟩
  have hl : ¬ 5 > e.platform.arrayLengthLimit := by rw [Launch.admits_arrayLengthLimit X.admits]; decide
  have hh : ¬ 20 > e.platform.maxHeapBytes := by rw [Launch.admits_maxHeapBytes X.admits]; decide
  jvm_step X.here [hexec, hdg]
  simp only [multianewarray.sem, wp_bind', W.resolveClassAt_links (State.method?_setTop g X.here.top) hg₁]
  rw [W.popN, if_neg (by decide)]
  refine ⟨g, State.topJava?_setTop' (s := T.setVm vm₁) g X.here.top, [.int (Int32.ofInt 3), .int (Int32.ofInt 5)], rest, rfl, hstack, ?_⟩
  simp only [List.mapM_cons, List.mapM_nil, wp_bind', wp_pure']
  refine mn_make (kO := kO₁) (kI := kI₁) (cI := comp') (cc := cc) hkO₁ (by rw [heO]; exact hkindO) hkI₁ (by rw [heI]; exact hkindI) hl hh (by show T.heap.size + 4 ≤ _; omega) (by show T.slotsUsed + 18 ≤ _; omega) (fun d' acts' => ?_)
  have XF := mn_stand X₁ cO comp'
  have eS : ((T.setTop g).setVm vm₁).setTop { g with stack := rest } = (T.setVm vm₁).setTop { g with stack := rest } := by
    show ((T.setVm vm₁).setTop g).setTop _ = _
    rw [State.setTop_setTop]
  have eD : ∀ (U : State) (f : JFrame), mn_D cO comp' (U.setTop f) = (mn_D cO comp' U).setTop f := fun U f => by
    simp only [mn_D, mn_C, mn_B, mn_A, State.heap_setTop, State.pushCell_setTop, State.setCell_setTop]
  rw [eS, eD]
  simp only [wp_bind', W.mark, W.pushRef, State.topJava?_setTop' _ XF.here.top, Option.some.injEq, exists_eq_left', State.setTop_setTop, State.heap_setTop]
  intro acts
  simp [jvm, XF.here.top]
  exact hrest
theorem ax_ws_mn {cA : Nat → ClassId} {ad : Nat → Nat} {n h : Nat} {sh : Nat → ax_S} {σ : Nat → Nat → Int} (hcl : ax_cl n sh) (hz : ∀ i, n ≤ i → ∀ j, σ i j = 0) : ax_ws cA (fun k => if n ≤ k then h + (k - n) else ad k) (n + 4) (shU (shU (shU (shU sh n (.inr (7, 3, [n + 1, n + 2, n + 3]))) (n + 1) (.inr (0, 5, []))) (n + 2) (.inr (0, 5, []))) (n + 3) (.inr (0, 5, []))) σ = ax_ws cA ad n sh σ ++ [(h, .inl (cA 7, 3, .inr (.inr (.inr (.inr (fun i => if i < 3 then some (h + 1 + i) else none)))))), (h + 1, .inl (cA 0, 5, .inl (fun _ => Int32.ofInt 0))), (h + 2, .inl (cA 0, 5, .inl (fun _ => Int32.ofInt 0))), (h + 3, .inl (cA 0, 5, .inl (fun _ => Int32.ofInt 0)))] := by
  unfold ax_ws
  rw [List.range_succ, List.range_succ, List.range_succ, List.range_succ]
  simp only [List.map_append, List.append_assoc]
  congr 1
  · apply List.map_congr_left
    intro k hk
    have hk2 : k < n := List.mem_range.mp hk
    rw [if_neg (by omega), shU_n (by omega), shU_n (by omega), shU_n (by omega), shU_n (by omega), ax_e_ad (hcl k hk2) (fun k hk => if_neg (by omega))]
  · have a0 : n ≤ n := Nat.le_refl n
    have z : ∀ i, n ≤ i → σ i = fun _ => 0 := fun i hi => funext (hz i hi)
    have r1 : (fun i : Nat => (([n + 1, n + 2, n + 3] : List Nat)[i]?).map (fun k => if n ≤ k then h + (k - n) else ad k)) = fun i => if i < 3 then some (h + 1 + i) else none := by
      funext i
      match i with
      | 0 => simp
      | 1 => simp
      | 2 => simp
      | i + 3 => simp
    simp only [List.map_cons, List.map_nil, List.cons_append, List.nil_append, z n (by omega), z (n + 1) (by omega), z (n + 2) (by omega), z (n + 3) (by omega)]
    simp only [shU, if_pos, show ¬ n = n + 3 by omega, show ¬ n = n + 2 by omega, show ¬ n = n + 1 by omega, show ¬ n + 1 = n + 3 by omega, show ¬ n + 1 = n + 2 by omega, show ¬ n + 2 = n + 3 by omega, if_false]
    rw [← r1]
    simp only [show n ≤ n + 1 by omega, show n ≤ n + 2 by omega, show n ≤ n + 3 by omega, Nat.le_refl, if_true, Nat.sub_self, Nat.add_zero, show n + 1 - n = 1 by omega, show n + 2 - n = 2 by omega, show n + 3 - n = 3 by omega]
    rfl
theorem mn_apart {A : Nat → Prop} {ws vs : va_W} {h : Nat} (hD : va_D A ws) (hlt : ∀ (k : Nat) (q : Nat × va_E), ws[k]? = some q → q.1 < h) (hA : ∀ q, h ≤ q → A q) (hv : ∀ (k : Nat) (q : Nat × va_E), vs[k]? = some q → q.1 = h + k) : va_D A (ws ++ vs) := by
  have key : ∀ (k : Nat) (q : Nat × va_E), (ws ++ vs)[k]? = some q → (ws[k]? = some q ∧ q.1 < h) ∨ (ws.length ≤ k ∧ q.1 = h + (k - ws.length)) := by
    intro k q hk
    by_cases hl : k < ws.length
    · rw [List.getElem?_append_left hl] at hk
      exact Or.inl ⟨hk, hlt k q hk⟩
    · rw [List.getElem?_append_right (by omega)] at hk
      exact Or.inr ⟨by omega, hv _ q hk⟩
  refine ⟨fun i j p q hi hj he => ?_, fun k q hk => ?_⟩
  · rcases key i p hi with ⟨a1, a2⟩ | ⟨a1, a2⟩ <;> rcases key j q hj with ⟨b1, b2⟩ | ⟨b1, b2⟩
    · exact hD.1 i j p q a1 b1 he
    · omega
    · omega
    · omega
  · rcases key k q hk with ⟨a1, a2⟩ | ⟨a1, a2⟩
    · exact hD.2 k q a1
    · exact hA _ (by omega)
theorem mn_cell (c : ClassId) (h : Nat) : mn_o3 c h = vp_cell c (3, .inr (.inr (.inr (.inr (fun i => if i < 3 then some (h + 1 + i) else none))))) := by
  rw [vp_cell_q]
  show (((({ cls := c, slots := Array.replicate 3 .null, vm := .none } : Cell).setSlot 0 (.ref (h + 1))).setSlot 1 (.ref (h + 2))).setSlot 2 (.ref (h + 3))) = _
  rw [arrV_new, arrV_store, arrV_store, arrV_store]
  unfold arrV
  congr 1
theorem mn_five_cell (c : ClassId) : mn_i c = vp_cell c (5, .inl (fun _ => Int32.ofInt 0)) := by
  rw [vp_cell_i]
  exact arrV_new c 5 (.int (Int32.ofInt 0))
theorem aw_mnaZ (X : AX p s m args meth c D cA sa bs cc nL own) {ix : Nat} (hw : Cond.classLink own ix "[[I" ∈ ax_T ∧ Cond.arrayClass .int ∈ ax_T) (hao : ax_AA s) (hb0 : bs ≤ s.heap.size) (hz : ∀ i, n ≤ i → ∀ j, σ i j = 0) (hcl : ax_cl n sh) (hR : kc + 4 ≤ R.cells ∧ ks + 18 ≤ R.slots) (d : decode cc pc = .ok (.multianewarray ix 2, 4))
    (k : ∀ ad1 : Nat → Nat, (∀ k, k < n → ad1 k = ad k) → ax_cl (n + 4) (shU (shU (shU (shU sh n (.inr (7, 3, [n + 1, n + 2, n + 3]))) (n + 1) (.inr (0, 5, []))) (n + 2) (.inr (0, 5, []))) (n + 3) (.inr (0, 5, []))) → AW p l e R s m args below meth c D cA ad1 bs (n + 4) (shU (shU (shU (shU sh n (.inr (7, 3, [n + 1, n + 2, n + 3]))) (n + 1) (.inr (0, 5, []))) (n + 2) (.inr (0, 5, []))) (n + 3) (.inr (0, 5, []))) (kc + 4) (ks + 18) Q nL (pc + 4) lv (.ref (ad1 n) :: st) σ) : AW p l e R s m args below meth c D cA ad bs n sh kc ks Q nL pc lv (z_i 5 :: z_i 3 :: st) σ :=
  fun H locs hP hS ls hl => by
    intro T hT Xs
    obtain ⟨vm₁, cO, cI, cq, kO, kI, hW, fO, fI, gO, gO2, gI, gI2, X', step⟩ := mn_step Xs X.1 X.2.2.2.1 (X.2.2.2.2.1 _ hw.1) hao (X.2.2.2.2.1 _ hw.2) (g := F0 m pc ls (z_i 5 :: z_i 3 :: st)) rfl (by rw [X.2.1]; exact d) rfl hR.1 hR.2
    have eO : cO = cA 7 := by
      have h2 := (X.2.2.2.2.2.1.1.2 7 (cA 7, .array .int) rfl).2
      exact Option.some.inj (fO.symm.trans h2)
    have eI : cI = cA 0 := by
      have h2 := (X.2.2.2.2.2.1.1.2 0 (cA 0, .int) rfl).2
      exact Option.some.inj (fI.symm.trans h2)
    subst eO eI
    subst hT
    have hP' : va_P D vwCl (ax_ws cA ad n sh σ) (mn_D (cA 7) (cA 0) (T.setVm vm₁)).heap := hP.1.kept fun k q hk => mn_old (cA 7) (cA 0) (T.setVm vm₁) ((hP.1 k q hk).lt)
    have hlt : ∀ (k : Nat) (q : Nat × va_E), (ax_ws cA ad n sh σ)[k]? = some q → q.1 < T.heap.size := fun k q hk => (hP.1 k q hk).lt
    have hb : bs ≤ T.heap.size := Nat.le_trans hb0 hS.1
    have hcl4 : ax_cl (n + 4) (shU (shU (shU (shU sh n (.inr (7, 3, [n + 1, n + 2, n + 3]))) (n + 1) (.inr (0, 5, []))) (n + 2) (.inr (0, 5, []))) (n + 3) (.inr (0, 5, []))) := by
      intro k hk
      unfold shU
      by_cases h3 : k = n + 3
      · rw [if_pos h3]; exact fun t ht => by cases ht
      rw [if_neg h3]
      by_cases h2 : k = n + 2
      · rw [if_pos h2]; exact fun t ht => by cases ht
      rw [if_neg h2]
      by_cases h1 : k = n + 1
      · rw [if_pos h1]; exact fun t ht => by cases ht
      rw [if_neg h1]
      by_cases h0 : k = n
      · rw [if_pos h0]
        intro t ht
        simp only [List.mem_cons, List.not_mem_nil, or_false] at ht
        omega
      rw [if_neg h0]
      exact (hcl k (by omega)).up (by omega)
    obtain ⟨t2, a1, b1⟩ := k (fun k => if n ≤ k then T.heap.size + (k - n) else ad k) (fun k hk => if_neg (by omega)) hcl4 (mn_D (cA 7) (cA 0) (T.setVm vm₁)).heap (locs ++ [⟨T.heap.size, 0⟩] ++ [⟨T.heap.size, 1⟩] ++ [⟨T.heap.size, 2⟩]) ⟨by
        rw [ax_ws_mn hcl hz]
        refine hP'.app fun k x hx => ?_
        match k, hx with
        | 0, hx => cases hx; exact (mn_hD (cA 7) (cA 0) (T.setVm vm₁)).trans (congrArg some (mn_cell (cA 7) T.heap.size))
        | 1, hx => cases hx; exact (mn_in1 (cA 7) (cA 0) (T.setVm vm₁)).trans (congrArg some (mn_five_cell (cA 0)))
        | 2, hx => cases hx; exact (mn_in2 (cA 7) (cA 0) (T.setVm vm₁)).trans (congrArg some (mn_five_cell (cA 0)))
        | 3, hx => cases hx; exact (mn_in3 (cA 7) (cA 0) (T.setVm vm₁)).trans (congrArg some (mn_five_cell (cA 0)))
        | k + 4, hx => simp at hx, by
        rw [ax_ws_mn hcl hz]
        refine mn_apart hP.2.1 hlt (fun q hq => Nat.le_trans hb hq) fun k x hx => ?_
        match k, hx with
        | 0, hx => cases hx; rfl
        | 1, hx => cases hx; rfl
        | 2, hx => cases hx; rfl
        | 3, hx => cases hx; rfl
        | k + 4, hx => simp at hx, fun k hk => by
        unfold shU
        by_cases h3 : k = n + 3
        · rw [if_pos h3]; exact ax_R0 (hz k (by omega))
        rw [if_neg h3]
        by_cases h2 : k = n + 2
        · rw [if_pos h2]; exact ax_R0 (hz k (by omega))
        rw [if_neg h2]
        by_cases h1 : k = n + 1
        · rw [if_pos h1]; exact ax_R0 (hz k (by omega))
        rw [if_neg h1]
        by_cases h0 : k = n
        · rw [if_pos h0]; exact ax_R0 (hz k (by omega))
        rw [if_neg h0]
        exact hP.2.2 k (by omega)⟩ ⟨by rw [mn_sD]; exact Nat.le_trans hS.1 (Nat.le_add_right _ _), fun q h1 h2 => (mn_old (cA 7) (cA 0) (T.setVm vm₁) (Nat.lt_of_lt_of_le h1 hS.1)).trans (hS.2.1 q h1 h2), fun q hq => by
        simp only [List.mem_append, List.mem_cons, List.not_mem_nil, or_false] at hq
        rcases hq with ((hq | rfl) | rfl) | rfl
        · exact hS.2.2 q hq
        · exact hb
        · exact hb
        · exact hb⟩ ls hl (mn_D (cA 7) (cA 0) (T.setVm vm₁)) rfl X'
    exact ⟨t2, step t2 (by simpa using a1), b1⟩
end AWN
