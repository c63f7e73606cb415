-- making objects: the world grows, its shapes change, the map of addresses is told cell by cell
def shU (sh : Nat → ax_S) (k : Nat) (s : ax_S) : Nat → ax_S := fun i => if i = k then s else sh i
theorem shU_s {sh : Nat → ax_S} {k : Nat} {s : ax_S} : shU sh k s k = s := if_pos rfl
theorem shU_n {sh : Nat → ax_S} {k i : Nat} {s : ax_S} (h : i ≠ k) : shU sh k s i = sh i := if_neg h
/-- a shape refers to cells below n alone -/
def ax_ok (n : Nat) (s : ax_S) : Prop := match s with
  | .inl (_, fs) => ∀ q ∈ fs, q.1 ≠ 3 ∧ (q.1 = 2 → q.2 < n)
  | .inr (_, _, tg) => ∀ t ∈ tg, t < n
def ax_cl (n : Nat) (sh : Nat → ax_S) : Prop := ∀ k, k < n → ax_ok n (sh k)
theorem ax_ok.up {n n' : Nat} {s : ax_S} (h : ax_ok n s) (hn : n ≤ n') : ax_ok n' s := by
  rcases s with ⟨ci, fs⟩ | ⟨k, len, tg⟩
  · exact fun q hq => ⟨(h q hq).1, fun z => Nat.lt_of_lt_of_le ((h q hq).2 z) hn⟩
  · exact fun t ht => Nat.lt_of_lt_of_le (h t ht) hn
theorem ax_cl_new {n : Nat} {sh : Nat → ax_S} {s : ax_S} (h : ax_cl n sh) (hs : ax_ok (n + 1) s) : ax_cl (n + 1) (shU sh n s) := fun k hk => by
  by_cases e : k = n
  · subst e
    rw [shU_s]
    exact hs
  · rw [shU_n e]
    exact (h k (by omega)).up (by omega)
theorem ax_cl_set {n a : Nat} {sh : Nat → ax_S} {s : ax_S} (h : ax_cl n sh) (hs : ax_ok n s) : ax_cl n (shU sh a s) := fun k hk => by
  by_cases e : k = a
  · subst e
    rw [shU_s]
    exact hs
  · rw [shU_n e]
    exact h k hk
theorem ax_fv_ad {ad ad1 : Nat → Nat} {n : Nat} {q : Nat × Nat} {x : Int} (h : q.1 ≠ 3 ∧ (q.1 = 2 → q.2 < n)) (ha : ∀ k, k < n → ad1 k = ad k) : ax_fv ad1 q x = ax_fv ad q x := by
  obtain ⟨k, t⟩ := q
  by_cases h2 : k = 2
  · subst h2
    show Value.ref (ad1 t) = Value.ref (ad t)
    rw [ha t (h.2 rfl)]
  · unfold ax_fv
    split <;> first | rfl | (exfalso; exact h2 (by assumption)) | (exfalso; exact h.1 (by assumption))
theorem ax_e_ad {cA : Nat → ClassId} {ad ad1 : Nat → Nat} {n : Nat} {s : ax_S} {row : Nat → Int} (h : ax_ok n s) (ha : ∀ k, k < n → ad1 k = ad k) : ax_e cA ad1 s row = ax_e cA ad s row := by
  rcases s with ⟨ci, fs⟩ | ⟨k, len, tg⟩
  · show (Sum.inr (ci, _) : va_E) = Sum.inr (ci, _)
    congr 2
    apply List.map_congr_left
    intro j hj
    have hj2 : j < fs.length := List.mem_range.mp hj
    have hm : fs.getD j (4, 0) ∈ fs := by
      rw [List.getD_eq_getElem?_getD, List.getElem?_eq_getElem hj2]
      exact List.getElem_mem hj2
    exact ax_fv_ad (h _ hm) ha
  · have e : (fun i : Nat => (tg[i]?).map ad1) = (fun i : Nat => (tg[i]?).map ad) := by
      funext i
      cases e : tg[i]? with
      | none => rfl
      | some t => show some (ad1 t) = some (ad t); rw [ha t (h t (List.mem_of_getElem? e))]
    unfold ax_e
    dsimp only
    split <;> first | rfl | rw [e]
theorem ax_ws_push {cA : Nat → ClassId} {ad ad1 : Nat → Nat} {n : Nat} {sh : Nat → ax_S} {s : ax_S} {σ : Nat → Nat → Int} (h : ax_cl n sh) (ha : ∀ k, k < n → ad1 k = ad k) : ax_ws cA ad1 (n + 1) (shU sh n s) σ = ax_ws cA ad n sh σ ++ [(ad1 n, ax_e cA ad1 s (σ n))] := by
  unfold ax_ws
  rw [List.range_succ, List.map_append]
  congr 1
  · apply List.map_congr_left
    intro k hk
    have hk2 : k < n := List.mem_range.mp hk
    rw [ha k hk2, shU_n (by omega), ax_e_ad (h k hk2) ha]
  · show [(ad1 n, ax_e cA ad1 (shU sh n s n) (σ n))] = _
    rw [shU_s]
theorem ax_ws_shU {cA : Nat → ClassId} {ad : Nat → Nat} {n a : Nat} {sh : Nat → ax_S} {s : ax_S} {σ : Nat → Nat → Int} {e : va_E} (he : e = ax_e cA ad s (σ a)) : (ax_ws cA ad n sh σ).set a (ad a, e) = ax_ws cA ad n (shU sh a s) σ := by
  refine List.ext_getElem? fun k => ?_
  rw [List.getElem?_set]
  by_cases h : a = k
  · subst h
    rw [if_pos rfl, ax_ws_len]
    by_cases h2 : a < n
    · rw [if_pos h2, ax_ws_get h2, he, shU_s]
    · rw [if_neg h2]
      symm
      rw [List.getElem?_eq_none_iff, ax_ws_len]
      omega
  · rw [if_neg h]
    by_cases h2 : k < n
    · rw [ax_ws_get h2, ax_ws_get h2, shU_n (fun q => h q.symm)]
    · rw [List.getElem?_eq_none (by rw [ax_ws_len]; omega), List.getElem?_eq_none (by rw [ax_ws_len]; omega)]
/-- a row of zeros fits every shape -/
theorem ax_R0 {s : ax_S} {row : Nat → Int} (h : ∀ j, row j = 0) : ax_R s row := by
  rcases s with ⟨ci, fs⟩ | ⟨k, len, tg⟩
  · intro j _
    rw [h j]
    exact ⟨fun _ => Z_I0, fun _ => z_IL Z_I0⟩
  · intro j _
    rw [h j]
    exact ⟨fun _ => Z_I0, fun _ => z_IL Z_I0, fun _ => by omega, fun _ => Or.inl rfl⟩
theorem ax_Rk {row : Nat → Int} {ci : Nat} {fs fs' : List (Nat × Nat)} (h : ax_R (.inl (ci, fs)) row) (hl : fs'.length = fs.length) (hk : ∀ j, (fs'.getD j (4, 0)).1 = 0 ∨ (fs'.getD j (4, 0)).1 = 1 → (fs.getD j (4, 0)).1 = (fs'.getD j (4, 0)).1) : ax_R (.inl (ci, fs')) row := fun j hj => by
  have h2 := h j (by omega)
  exact ⟨fun z => h2.1 ((hk j (Or.inl z)).trans z), fun z => h2.2 ((hk j (Or.inr z)).trans z)⟩
section AWZ
variable {p : Program} {l : Launch} {e : Env} {R : Room} {s : State} {m : MethodId} {args : Array Value} {below : List Frame} {meth : Method} {c : Code} {D : va_G} {cA : Nat → ClassId} {sa ad : Nat → Nat} {bs n kc ks : Nat} {sh : Nat → ax_S} {Q : State → Prop} {cc : ByteArray} {nL pc : Nat} {own : String} {lv : List (Nat × Value)} {st st0 : List Value} {σ τ : Nat → Nat → Int}
theorem aw_re {lv' : List (Nat × Value)} {st' : List Value} (h1 : lv = lv') (h2 : st = st') (k : AW p l e R s m args below meth c D cA ad bs n sh kc ks Q nL pc lv' st' σ) : AW p l e R s m args below meth c D cA ad bs n sh kc ks Q nL pc lv st σ := by
  subst h1
  subst h2
  exact k
/-- the world with one cell more, at q -/
theorem ax_P_push {q : Nat} {s1 : ax_S} {H H1 : Heap} {E : va_E} (hP : ax_P D cA ad bs n sh σ H) (hcl : ax_cl n sh) (hz : ∀ j, σ n j = 0) (hE : E = ax_e cA (fun k => if k = n then q else ad k) s1 (σ n)) (h : va_P D vwCl (ax_ws cA ad n sh σ ++ [(q, E)]) H1) (hd : va_D (ax_A bs) (ax_ws cA ad n sh σ ++ [(q, E)])) : ax_P D cA (fun k => if k = n then q else ad k) bs (n + 1) (shU sh n s1) σ H1 := by
  have e1 : ax_ws cA (fun k => if k = n then q else ad k) (n + 1) (shU sh n s1) σ = ax_ws cA ad n sh σ ++ [(q, E)] := by
    rw [ax_ws_push hcl (fun k hk => if_neg (by omega)), hE]
    show _ ++ [((if n = n then q else ad n), _)] = _
    rw [if_pos rfl]
  refine ⟨by rw [e1]; exact h, by rw [e1]; exact hd, fun k hk => ?_⟩
  by_cases e : k = n
  · subst e
    rw [shU_s]
    exact ax_R0 hz
  · rw [shU_n e]
    exact hP.2.2 k (by omega)
theorem aw_objinit (X : AX p s m args meth c D cA sa bs cc nL own) {ix a : Nat} (hw : Cond.methodLink own ix Lib.objectInit ∈ ax_T ∧ Cond.instanceMethod Lib.objectInit ∈ ax_T ∧ Cond.code Lib.objectInit ⟨#[0xb1]⟩ 1 none ∈ ax_T) (hR : 1 ≤ R.frames ∧ (st.map fun v => v.category).sum + 12 ≤ R.locals) (d : decode cc pc = .ok (.invokespecial ix, 3)) (k : AW p l e R s m args below meth c D cA ad bs n sh kc ks Q nL (pc + 3) lv st σ) : AW p l e R s m args below meth c D cA ad bs n sh kc ks Q nL pc lv (.ref a :: st) σ :=
  fun H locs hP hS ls hl => W.objInit X.1 X.2.1 X.2.2.2.1 (X.2.2.2.2.1 _ hw.1) (X.2.2.2.2.1 _ hw.2.1) (X.2.2.2.2.1 _ hw.2.2) rfl (hl.1.trans X.2.2.1.symm) rfl d hR.1 (by show 2 * 0 + _ + 12 ≤ _; have := hR.2; omega) (k H locs hP hS ls hl)
theorem aw_newZ (X : AX p s m args meth c D cA sa bs cc nL own) {ix ci N : Nat} {C : String} {T : u_T} {ty : Nat → FieldType} {f0 : List (Nat × Nat)} (hc : vwCl[ci]? = some (C, T, N)) (hin : ∀ w ∈ u_ws C T N, w ∈ ax_T) (hty : ∀ k, k < N → parseFieldDescriptor (T k).2.2.1 = some (ty k)) (hw : Cond.classLink own ix C ∈ ax_T ∧ Cond.instantiable C N ∈ ax_T ∧ Cond.initialized C ∈ ax_T) (hf0 : f0.length = N ∧ (∀ q ∈ f0, q.1 ≠ 3 ∧ q.1 ≠ 2) ∧ ∀ j, j < N → defaultValue (ty j) = ax_fv (fun _ => 0) (f0.getD j (4, 0)) 0) (hb0 : bs ≤ s.heap.size) (hz : ∀ j, σ n j = 0) (hcl : ax_cl n sh) (hR : kc + 1 ≤ R.cells ∧ ks + N ≤ R.slots) (d : decode cc pc = .ok (.new ix, 3))
    (k : ∀ ad1 : Nat → Nat, (∀ k, k < n → ad1 k = ad k) → ax_cl (n + 1) (shU sh n (.inl (ci, f0))) → AW p l e R s m args below meth c D cA ad1 bs (n + 1) (shU sh n (.inl (ci, f0))) (kc + 1) (ks + N) Q nL (pc + 3) lv (.ref (ad1 n) :: st) σ) : AW p l e R s m args below meth c D cA ad bs n sh kc ks Q nL pc lv st σ :=
  fun H locs hP hS ls hl => by
    have hfv : ∀ (ad0 : Nat → Nat) (j : Nat), j < N → ax_fv ad0 (f0.getD j (4, 0)) (σ n j) = defaultValue (ty j) := fun ad0 j hj => by
      rw [hf0.2.2 j hj, hz j]
      have hj2 : j < f0.length := by rw [hf0.1]; exact hj
      have hm : f0.getD j (4, 0) ∈ f0 := by
        rw [List.getD_eq_getElem?_getD, List.getElem?_eq_getElem hj2]
        exact List.getElem_mem hj2
      have h3 := hf0.2.1 _ hm
      exact ax_fv_ad (n := 0) ⟨h3.1, fun z => absurd z h3.2⟩ (fun k hk => absurd hk (by omega))
    refine va_new (ci := ci) (fs := (List.range f0.length).map (fun k => ax_fv ad (f0.getD k (4, 0)) (σ n k))) X.1 X.2.1 X.2.2.2.2.1 hin ty hty X.2.2.2.1 (X.2.2.2.2.1 _ hw.1) (X.2.2.2.2.1 _ hw.2.1) (X.2.2.2.2.1 _ hw.2.2) X.2.2.2.2.2.1.1 hP.1 hP.2.1 hS (fun q hq => Nat.le_trans hb0 hq) hc (fun j hj => ?_) hR.1 hR.2 d (fun q H1 hP1 hD1 hS1 => ?_)
    · have e1 := ax_fs_get (ad := ad) (fs := f0) (row := σ n) (j := j) (by rw [hf0.1]; exact hj)
      show _ = List.getD _ j Value.null
      rw [List.getD_eq_getElem?_getD, e1]
      exact (hfv ad j hj).symm
    · have hok : ax_ok (n + 1) (.inl (ci, f0)) := fun q hq => ⟨(hf0.2.1 q hq).1, fun z => absurd z (hf0.2.1 q hq).2⟩
      have hok0 : ax_ok 0 (.inl (ci, f0)) := fun q hq => ⟨(hf0.2.1 q hq).1, fun z => absurd z (hf0.2.1 q hq).2⟩
      have h2 := k (fun k => if k = n then q else ad k) (fun k hk => if_neg (by omega)) (ax_cl_new hcl hok) H1 locs (ax_P_push (s1 := .inl (ci, f0)) hP hcl hz (ax_e_ad (cA := cA) (ad := fun k => if k = n then q else ad k) (ad1 := ad) hok0 (fun k hk => absurd hk (by omega))) hP1 hD1) hS1 ls hl
      simpa using h2
theorem aw_newa0Z (X : AX p s m args meth c D cA sa bs cc nL own) {len : Nat} {x : Int} (hx : x = (len : Int)) (hlen : len < 100000) (hw : Cond.arrayClass .int ∈ ax_T) (hb0 : bs ≤ s.heap.size) (hz : ∀ j, σ n j = 0) (hcl : ax_cl n sh) (hR : kc + 1 ≤ R.cells ∧ ks + len ≤ R.slots) (d : decode cc pc = .ok (.newarray .int, 2))
    (k : ∀ ad1 : Nat → Nat, (∀ k, k < n → ad1 k = ad k) → ax_cl (n + 1) (shU sh n (.inr (0, len, []))) → AW p l e R s m args below meth c D cA ad1 bs (n + 1) (shU sh n (.inr (0, len, []))) (kc + 1) (ks + len) Q nL (pc + 2) lv (.ref (ad1 n) :: st) σ) : AW p l e R s m args below meth c D cA ad bs n sh kc ks Q nL pc lv (z_i x :: st) σ :=
  fun H locs hP hS ls hl => by
    subst hx
    have cz : Z_I (len : Int) := by unfold Z_I; omega
    refine va_newa (atype := .int) (ty := .int) (N' := len) (a0 := (len, .inl (fun _ => 0))) X.1 X.2.1 (X.2.2.2.2.1 _ hw) rfl X.2.2.2.2.2.1.1 hP.1 hP.2.1 hS (fun q hq => Nat.le_trans hb0 hq) (fun c0 => by first | (rw [vp_cell_i]; done) | (rw [vp_cell_i]; rfl)) (by rw [Int32.lt_iff_toInt_lt, z_t cz]; show ¬ (len : Int) < 0; omega) (by rw [z_cl cz]; omega) (by show len * _ ≤ _; have : componentBytes .int ≤ 8 := (by decide); exact Nat.le_trans (Nat.mul_le_mul (Nat.le_of_lt hlen) this) (by decide)) hR.1 hR.2 d (fun q cN H1 hK1 hP1 hD1 hS1 => ?_)
    have ec : cN = cA 0 := by
      have h1 := (hK1.2 8 (cN, .int) rfl).2
      have h2 := (hK1.2 0 (cA 0, .int) rfl).2
      exact Option.some.inj (h1.symm.trans h2)
    subst ec
    have hE : (Sum.inl (cA 0, len, Sum.inl (fun _ => 0)) : va_E) = ax_e cA (fun k => if k = n then q else ad k) (.inr (0, len, [])) (σ n) := by
      show _ = (Sum.inl (cA 0, len, _) : va_E)
      congr 3
      skip
      congr 1
      funext j
      rw [hz j]
      rfl
    have h2 := k (fun k => if k = n then q else ad k) (fun k hk => if_neg (by omega)) (ax_cl_new hcl (fun t ht => by cases ht)) H1 locs (ax_P_push (s1 := .inr (0, len, [])) hP hcl hz hE hP1 hD1) hS1 ls hl
    simpa using h2
theorem aw_newa1Z (X : AX p s m args meth c D cA sa bs cc nL own) {len : Nat} {x : Int} (hx : x = (len : Int)) (hlen : len < 100000) (hw : Cond.arrayClass .long ∈ ax_T) (hb0 : bs ≤ s.heap.size) (hz : ∀ j, σ n j = 0) (hcl : ax_cl n sh) (hR : kc + 1 ≤ R.cells ∧ ks + len ≤ R.slots) (d : decode cc pc = .ok (.newarray .long, 2))
    (k : ∀ ad1 : Nat → Nat, (∀ k, k < n → ad1 k = ad k) → ax_cl (n + 1) (shU sh n (.inr (1, len, []))) → AW p l e R s m args below meth c D cA ad1 bs (n + 1) (shU sh n (.inr (1, len, []))) (kc + 1) (ks + len) Q nL (pc + 2) lv (.ref (ad1 n) :: st) σ) : AW p l e R s m args below meth c D cA ad bs n sh kc ks Q nL pc lv (z_i x :: st) σ :=
  fun H locs hP hS ls hl => by
    subst hx
    have cz : Z_I (len : Int) := by unfold Z_I; omega
    refine va_newa (atype := .long) (ty := .long) (N' := len) (a0 := (len, .inr (.inl (fun _ => 0)))) X.1 X.2.1 (X.2.2.2.2.1 _ hw) rfl X.2.2.2.2.2.1.1 hP.1 hP.2.1 hS (fun q hq => Nat.le_trans hb0 hq) (fun c0 => by first | (rw [vp_cell_l]; done) | (rw [vp_cell_l]; rfl)) (by rw [Int32.lt_iff_toInt_lt, z_t cz]; show ¬ (len : Int) < 0; omega) (by rw [z_cl cz]; omega) (by show len * _ ≤ _; have : componentBytes .long ≤ 8 := (by decide); exact Nat.le_trans (Nat.mul_le_mul (Nat.le_of_lt hlen) this) (by decide)) hR.1 hR.2 d (fun q cN H1 hK1 hP1 hD1 hS1 => ?_)
    have ec : cN = cA 1 := by
      have h1 := (hK1.2 8 (cN, .long) rfl).2
      have h2 := (hK1.2 1 (cA 1, .long) rfl).2
      exact Option.some.inj (h1.symm.trans h2)
    subst ec
    have hE : (Sum.inl (cA 1, len, Sum.inr (Sum.inl (fun _ => 0))) : va_E) = ax_e cA (fun k => if k = n then q else ad k) (.inr (1, len, [])) (σ n) := by
      show _ = (Sum.inl (cA 1, len, _) : va_E)
      congr 3
      congr 1
      congr 1
      funext j
      rw [hz j]
      rfl
    have h2 := k (fun k => if k = n then q else ad k) (fun k hk => if_neg (by omega)) (ax_cl_new hcl (fun t ht => by cases ht)) H1 locs (ax_P_push (s1 := .inr (1, len, [])) hP hcl hz hE hP1 hD1) hS1 ls hl
    simpa using h2
theorem aw_newa2Z (X : AX p s m args meth c D cA sa bs cc nL own) {len : Nat} {x : Int} (hx : x = (len : Int)) (hlen : len < 100000) (hw : Cond.arrayClass .byte ∈ ax_T) (hb0 : bs ≤ s.heap.size) (hz : ∀ j, σ n j = 0) (hcl : ax_cl n sh) (hR : kc + 1 ≤ R.cells ∧ ks + len ≤ R.slots) (d : decode cc pc = .ok (.newarray .byte, 2))
    (k : ∀ ad1 : Nat → Nat, (∀ k, k < n → ad1 k = ad k) → ax_cl (n + 1) (shU sh n (.inr (2, len, []))) → AW p l e R s m args below meth c D cA ad1 bs (n + 1) (shU sh n (.inr (2, len, []))) (kc + 1) (ks + len) Q nL (pc + 2) lv (.ref (ad1 n) :: st) σ) : AW p l e R s m args below meth c D cA ad bs n sh kc ks Q nL pc lv (z_i x :: st) σ :=
  fun H locs hP hS ls hl => by
    subst hx
    have cz : Z_I (len : Int) := by unfold Z_I; omega
    refine va_newa (atype := .byte) (ty := .byte) (N' := len) (a0 := (len, .inl (fun _ => 0))) X.1 X.2.1 (X.2.2.2.2.1 _ hw) rfl X.2.2.2.2.2.1.1 hP.1 hP.2.1 hS (fun q hq => Nat.le_trans hb0 hq) (fun c0 => by first | (rw [vp_cell_i]; done) | (rw [vp_cell_i]; rfl)) (by rw [Int32.lt_iff_toInt_lt, z_t cz]; show ¬ (len : Int) < 0; omega) (by rw [z_cl cz]; omega) (by show len * _ ≤ _; have : componentBytes .byte ≤ 8 := (by decide); exact Nat.le_trans (Nat.mul_le_mul (Nat.le_of_lt hlen) this) (by decide)) hR.1 hR.2 d (fun q cN H1 hK1 hP1 hD1 hS1 => ?_)
    have ec : cN = cA 2 := by
      have h1 := (hK1.2 8 (cN, .byte) rfl).2
      have h2 := (hK1.2 2 (cA 2, .byte) rfl).2
      exact Option.some.inj (h1.symm.trans h2)
    subst ec
    have hE : (Sum.inl (cA 2, len, Sum.inl (fun _ => 0)) : va_E) = ax_e cA (fun k => if k = n then q else ad k) (.inr (2, len, [])) (σ n) := by
      show _ = (Sum.inl (cA 2, len, _) : va_E)
      congr 3
      skip
      congr 1
      funext j
      rw [hz j]
      rfl
    have h2 := k (fun k => if k = n then q else ad k) (fun k hk => if_neg (by omega)) (ax_cl_new hcl (fun t ht => by cases ht)) H1 locs (ax_P_push (s1 := .inr (2, len, [])) hP hcl hz hE hP1 hD1) hS1 ls hl
    simpa using h2
theorem aw_newa3Z (X : AX p s m args meth c D cA sa bs cc nL own) {len : Nat} {x : Int} (hx : x = (len : Int)) (hlen : len < 100000) (hw : Cond.arrayClass .boolean ∈ ax_T) (hb0 : bs ≤ s.heap.size) (hz : ∀ j, σ n j = 0) (hcl : ax_cl n sh) (hR : kc + 1 ≤ R.cells ∧ ks + len ≤ R.slots) (d : decode cc pc = .ok (.newarray .boolean, 2))
    (k : ∀ ad1 : Nat → Nat, (∀ k, k < n → ad1 k = ad k) → ax_cl (n + 1) (shU sh n (.inr (3, len, []))) → AW p l e R s m args below meth c D cA ad1 bs (n + 1) (shU sh n (.inr (3, len, []))) (kc + 1) (ks + len) Q nL (pc + 2) lv (.ref (ad1 n) :: st) σ) : AW p l e R s m args below meth c D cA ad bs n sh kc ks Q nL pc lv (z_i x :: st) σ :=
  fun H locs hP hS ls hl => by
    subst hx
    have cz : Z_I (len : Int) := by unfold Z_I; omega
    refine va_newa (atype := .boolean) (ty := .boolean) (N' := len) (a0 := (len, .inl (fun _ => 0))) X.1 X.2.1 (X.2.2.2.2.1 _ hw) rfl X.2.2.2.2.2.1.1 hP.1 hP.2.1 hS (fun q hq => Nat.le_trans hb0 hq) (fun c0 => by first | (rw [vp_cell_i]; done) | (rw [vp_cell_i]; rfl)) (by rw [Int32.lt_iff_toInt_lt, z_t cz]; show ¬ (len : Int) < 0; omega) (by rw [z_cl cz]; omega) (by show len * _ ≤ _; have : componentBytes .boolean ≤ 8 := (by decide); exact Nat.le_trans (Nat.mul_le_mul (Nat.le_of_lt hlen) this) (by decide)) hR.1 hR.2 d (fun q cN H1 hK1 hP1 hD1 hS1 => ?_)
    have ec : cN = cA 3 := by
      have h1 := (hK1.2 8 (cN, .boolean) rfl).2
      have h2 := (hK1.2 3 (cA 3, .boolean) rfl).2
      exact Option.some.inj (h1.symm.trans h2)
    subst ec
    have hE : (Sum.inl (cA 3, len, Sum.inl (fun _ => 0)) : va_E) = ax_e cA (fun k => if k = n then q else ad k) (.inr (3, len, [])) (σ n) := by
      show _ = (Sum.inl (cA 3, len, _) : va_E)
      congr 3
      skip
      congr 1
      funext j
      rw [hz j]
      rfl
    have h2 := k (fun k => if k = n then q else ad k) (fun k hk => if_neg (by omega)) (ax_cl_new hcl (fun t ht => by cases ht)) H1 locs (ax_P_push (s1 := .inr (3, len, [])) hP hcl hz hE hP1 hD1) hS1 ls hl
    simpa using h2
theorem aw_anewZ (X : AX p s m args meth c D cA sa bs cc nL own) {len ix kd : Nat} {C : String} {x : Int} (hx : x = (len : Int)) (hlen : len < 100000) (hkd : kd < 3) (hty : (ax_tys cA)[kd + 4]? = some (cA (kd + 4), .object C)) (hw : Cond.classLink own ix C ∈ ax_T) (hao : va_AO C s) (hb0 : bs ≤ s.heap.size) (hz : ∀ j, σ n j = 0) (hcl : ax_cl n sh) (hR : kc + 1 ≤ R.cells ∧ ks + len ≤ R.slots) (d : decode cc pc = .ok (.anewarray ix, 3))
    (k : ∀ ad1 : Nat → Nat, (∀ k, k < n → ad1 k = ad k) → ax_cl (n + 1) (shU sh n (.inr (kd + 4, len, []))) → AW p l e R s m args below meth c D cA ad1 bs (n + 1) (shU sh n (.inr (kd + 4, len, []))) (kc + 1) (ks + len) Q nL (pc + 3) lv (.ref (ad1 n) :: st) σ) : AW p l e R s m args below meth c D cA ad bs n sh kc ks Q nL pc lv (z_i x :: st) σ :=
  fun H locs hP hS ls hl => by
    subst hx
    have cz : Z_I (len : Int) := by unfold Z_I; omega
    refine va_newq (N' := len) X.1 X.2.1 X.2.2.2.1 (X.2.2.2.2.1 _ hw) hao X.2.2.2.2.2.1.1 hP.1 hP.2.1 hS (fun q hq => Nat.le_trans hb0 hq) (by rw [Int32.lt_iff_toInt_lt, z_t cz]; show ¬ (len : Int) < 0; omega) (by rw [z_cl cz]; omega) (by omega) hR.1 hR.2 d (fun q cN H1 hK1 hP1 hD1 hS1 => ?_)
    have ec : cN = cA (kd + 4) := by
      obtain ⟨_, _, _, _, _, h1⟩ := (hK1.2 8 (cN, .object C) rfl).2
      obtain ⟨_, _, _, _, _, h2⟩ := (X.2.2.2.2.2.1.1.2 (kd + 4) (cA (kd + 4), .object C) hty).2
      exact Option.some.inj (h1.symm.trans h2)
    subst ec
    have hE : (Sum.inl (cA (kd + 4), len, Sum.inr (Sum.inr (Sum.inr (Sum.inr (fun _ => none))))) : va_E) = ax_e cA (fun k => if k = n then q else ad k) (.inr (kd + 4, len, [])) (σ n) := by
      have : kd = 0 ∨ kd = 1 ∨ kd = 2 := by omega
      rcases this with rfl | rfl | rfl <;> rfl
    have h2 := k (fun k => if k = n then q else ad k) (fun k hk => if_neg (by omega)) (ax_cl_new hcl (fun t ht => by cases ht)) H1 locs (ax_P_push (s1 := .inr (kd + 4, len, [])) hP hcl hz hE hP1 hD1) hS1 ls hl
    simpa using h2
/-- a reference put into a field, final or not; the shape tells it -/
theorem ax_P_ref {a ci j t : Nat} {fs : List (Nat × Nat)} {H H1 : Heap} (hP : ax_P D cA ad bs n sh σ H) (hs : a < n ∧ sh a = .inl (ci, fs)) (hj : j < fs.length) (hk : (fs.getD j (4, 0)).1 ≠ 0 ∧ (fs.getD j (4, 0)).1 ≠ 1)
    (h : va_P D vwCl ((ax_ws cA ad n sh σ).set a (ad a, .inr (ci, ((List.range fs.length).map (fun k => ax_fv ad (fs.getD k (4, 0)) (σ a k))).set j (.ref (ad t))))) H1) (hd : va_D (ax_A bs) ((ax_ws cA ad n sh σ).set a (ad a, .inr (ci, ((List.range fs.length).map (fun k => ax_fv ad (fs.getD k (4, 0)) (σ a k))).set j (.ref (ad t)))))) : ax_P D cA ad bs n (shU sh a (.inl (ci, fs.set j (2, t)))) σ H1 := by
  have he : (.inr (ci, ((List.range fs.length).map (fun k => ax_fv ad (fs.getD k (4, 0)) (σ a k))).set j (.ref (ad t))) : va_E) = ax_e cA ad (.inl (ci, fs.set j (2, t))) (σ a) := by
    show _ = (Sum.inr (ci, (List.range (fs.set j (2, t)).length).map (fun k => ax_fv ad ((fs.set j (2, t)).getD k (4, 0)) (σ a k))) : va_E)
    congr 2
    rw [List.length_set]
    refine List.ext_getElem? fun k => ?_
    rw [List.getElem?_set]
    by_cases e : j = k
    · subst e
      rw [if_pos rfl, if_pos (by simpa using hj)]
      simp [hj, ax_fv]
    · rw [if_neg e]
      by_cases h2 : k < fs.length
      · simp [h2, List.getElem?_set, e]
      · rw [List.getElem?_eq_none (by simpa using h2), List.getElem?_eq_none (by simpa using h2)]
  rw [ax_ws_shU he] at h hd
  refine ⟨h, hd, fun k hk2 => ?_⟩
  by_cases e : k = a
  · subst e
    have h0 := hP.2.2 k hk2
    rw [hs.2] at h0
    rw [shU_s]
    refine ax_Rk h0 (by simp) (fun i hi => ?_)
    by_cases e2 : j = i
    · subst e2
      simp [hj] at hi
    · simp [List.getElem?_set, e2]
  · rw [shU_n e]
    exact hP.2.2 k hk2
theorem aw_putFZ (X : AX p s m args meth c D cA sa bs cc nL own) {a ix ci j t N : Nat} {fs : List (Nat × Nat)} {C : String} {T : u_T} {ty0 : Nat → FieldType} {ty : FieldType} (hs : a < n ∧ sh a = .inl (ci, fs)) (hN : fs.length = N) (hc : vwCl[ci]? = some (C, T, N)) (hin : ∀ w ∈ u_ws C T N, w ∈ ax_T) (hty : ∀ k, k < N → parseFieldDescriptor (T k).2.2.1 = some (ty0 k)) (hnm : ∀ a, a < N → ∀ b, b < N → a ≠ b → (T a).2.1 ≠ (T b).2.1) (hj : j < N) (hlk : Cond.fieldLink own ix (T j).1 (T j).2.1 (T j).2.2.1 ∈ ax_T) (hfin : ((T j).2.2.2 = true ∧ meth.name = "<init>" ∧ (T j).1 = own) ∨ (T j).2.2.2 = false) (hpd : parseFieldDescriptor (T j).2.2.1 = some ty) (hfit : ∀ v, narrow ty (.ref v) = .ref v ∧ fits ty (.ref v) = true) (hk : (fs.getD j (4, 0)).1 ≠ 0 ∧ (fs.getD j (4, 0)).1 ≠ 1) (ht : t < n) (hcl : ax_cl n sh) (d : decode cc pc = .ok (.putfield ix, 3))
    (k : ax_cl n (shU sh a (.inl (ci, fs.set j (2, t)))) → AW p l e R s m args below meth c D cA ad bs n (shU sh a (.inl (ci, fs.set j (2, t)))) kc ks Q nL (pc + 3) lv st σ) : AW p l e R s m args below meth c D cA ad bs n sh kc ks Q nL pc lv (.ref (ad t) :: .ref (ad a) :: st) σ :=
  fun H locs hP hS ls hl => by
    have hok : ax_ok n (.inl (ci, fs.set j (2, t))) := fun q hq => by
      rcases List.mem_or_eq_of_mem_set hq with h | h
      · have h0 := hcl a hs.1
        rw [hs.2] at h0
        exact h0 q h
      · rw [h]
        exact ⟨show (2 : Nat) ≠ 3 from by decide, fun _ => ht⟩
    subst hN
    rcases hfin with ⟨h1, h2, h3⟩ | h1
    · exact va_putF X.1 X.2.1 X.2.2.2.2.1 hin ty0 hty hnm X.2.2.2.1 X.2.2.2.2.2.1.1 hP.1 hP.2.1 hS a (ax_ws_obj hs) hc j hj (X.2.2.2.2.1 _ hlk) (fun _ h => h) h1 h2 h3 hpd (hfit _).1 (hfit _).2 (by simpa using hj) d (fun H1 locs1 hP1 hD1 hS1 => k (ax_cl_set hcl hok) H1 locs1 (ax_P_ref hP hs hj hk hP1 hD1) hS1 ls hl)
    · exact va_put X.1 X.2.1 X.2.2.2.2.1 hin ty0 hty hnm X.2.2.2.1 X.2.2.2.2.2.1.1 hP.1 hP.2.1 hS a (ax_ws_obj hs) hc j hj (X.2.2.2.2.1 _ hlk) (fun _ h => h) h1 hpd (hfit _).1 (hfit _).2 (by simpa using hj) d (fun H1 locs1 hP1 hD1 hS1 => k (ax_cl_set hcl hok) H1 locs1 (ax_P_ref hP hs hj hk hP1 hD1) hS1 ls hl)
/-- an object stored behind those that a row of references holds -/
theorem aw_astZ (X : AX p s m args meth c D cA sa bs cc nL own) {a kd len t ci : Nat} {tg : List Nat} {f2 : List (Nat × Nat)} {r : vw_C} {x : Int} (hx : x = (tg.length : Int)) (hlen : len < 100000) (hs : a < n ∧ sh a = .inr (kd + 4, len, tg)) (hkd : kd < 3) (hty : (ax_tys cA)[kd + 4]? = some (cA (kd + 4), .object r.1)) (ht : t < n ∧ sh t = .inl (ci, f2)) (hc : vwCl[ci]? = some r) (hi : tg.length < len) (hcl : ax_cl n sh) (d : decode cc pc = .ok (.aastore, 1))
    (k : ax_cl n (shU sh a (.inr (kd + 4, len, tg ++ [t]))) → AW p l e R s m args below meth c D cA ad bs n (shU sh a (.inr (kd + 4, len, tg ++ [t]))) kc ks Q nL (pc + 1) lv st σ) : AW p l e R s m args below meth c D cA ad bs n sh kc ks Q nL pc lv (.ref (ad t) :: z_i x :: .ref (ad a) :: st) σ :=
  fun H locs hP hS ls hl => by
    subst hx
    have cz : Z_I (tg.length : Int) := by unfold Z_I; omega
    have hok : ax_ok n (.inr (kd + 4, len, tg ++ [t])) := fun q hq => by
      rcases List.mem_append.mp hq with h | h
      · have h0 := hcl a hs.1
        rw [hs.2] at h0
        exact h0 q h
      · rw [List.mem_singleton.mp h]
        exact ht.1
    have ha : (ax_ws cA ad n sh σ)[a]? = some (ad a, .inl (cA (kd + 4), len, .inr (.inr (.inr (.inr (fun i => (tg[i]?).map ad)))))) := by
      rw [ax_ws_arr hs]
      have : kd = 0 ∨ kd = 1 ∨ kd = 2 := by omega
      rcases this with rfl | rfl | rfl <;> rfl
    refine va_astq X.1 X.2.1 X.2.2.2.2.2.1.1 hP.1 hP.2.1 hS a (kd + 4) t ci ha hty (ax_ws_obj ht) hc (z_in cz (by omega) (by omega)) d (fun H1 locs1 hP1 hD1 hS1 => ?_)
    have he : (.inl (cA (kd + 4), len, .inr (.inr (.inr (.inr (va_up (fun i => (tg[i]?).map ad) (Int32.ofInt (tg.length : Int)).toNatClampNeg (some (ad t))))))) : va_E) = ax_e cA ad (.inr (kd + 4, len, tg ++ [t])) (σ a) := by
      have e1 : va_up (fun i => (tg[i]?).map ad) (Int32.ofInt (tg.length : Int)).toNatClampNeg (some (ad t)) = fun i => ((tg ++ [t])[i]?).map ad := by
        rw [z_cl cz]
        funext i
        unfold va_up
        by_cases e : i = (tg.length : Int).toNat
        · rw [if_pos e]
          have e2 : i = tg.length := by omega
          subst e2
          simp
        · rw [if_neg e]
          show (tg[i]?).map ad = ((tg ++ [t])[i]?).map ad
          by_cases h2 : i < tg.length
          · rw [List.getElem?_append_left h2]
          · have h3 : tg[i]? = none := List.getElem?_eq_none (by omega)
            have h4 : (tg ++ [t])[i]? = none := List.getElem?_eq_none (by rw [List.length_append]; show tg.length + 1 ≤ i; omega)
            rw [h3, h4]
      rw [e1]
      have : kd = 0 ∨ kd = 1 ∨ kd = 2 := by omega
      rcases this with rfl | rfl | rfl <;> rfl
    rw [ax_ws_shU he] at hP1 hD1
    refine k (ax_cl_set hcl hok) H1 locs1 ⟨hP1, hD1, fun b hb => ?_⟩ hS1 ls hl
    by_cases e : b = a
    · subst e
      have h0 := hP.2.2 b hb
      rw [hs.2] at h0
      rw [shU_s]
      exact h0
    · rw [shU_n e]
      exact hP.2.2 b hb
end AWZ
