-- making objects: the world grows, its shapes change, the map of addresses is told cell by cell
def shU (sh : Nat → ax_S) (k : Nat) (s : ax_S) : Nat → ax_S := fun i => if i = k then s else sh i
theorem shU_s {sh : Nat → ax_S} {k : Nat} {s : ax_S} : shU sh k s k = s := if_pos rfl
theorem shU_n {sh : Nat → ax_S} {k i : Nat} {s : ax_S} (h : i ≠ k) : shU sh k s i = sh i := if_neg h
/-- a shape refers to cells below n alone -/
def ax_ok (n : Nat) (s : ax_S) : Prop := match s with
  | .inl (_, fs) => ∀ q ∈ fs, q.1 ≠ 3 ∧ (q.1 = 2 → q.2 < n)
  | .inr (_, _, tg) => ∀ t ∈ tg, t < n
def ax_cl (n : Nat) (sh : Nat → ax_S) : Prop := ∀ k, k < n → ax_ok n (sh k)
theorem ax_ok.up {n n' : Nat} {s : ax_S} (h : ax_ok n s) (hn : n ≤ n') : ax_ok n' s := by
  rcases s with ⟨ci, fs⟩ | ⟨k, len, tg⟩
  · exact fun q hq => ⟨(h q hq).1, fun z => Nat.lt_of_lt_of_le ((h q hq).2 z) hn⟩
  · exact fun t ht => Nat.lt_of_lt_of_le (h t ht) hn
theorem ax_cl_new {n : Nat} {sh : Nat → ax_S} {s : ax_S} (h : ax_cl n sh) (hs : ax_ok (n + 1) s) : ax_cl (n + 1) (shU sh n s) := fun k hk => by
  by_cases e : k = n
  · subst e
    rw [shU_s]
    exact hs
  · rw [shU_n e]
    exact (h k (by omega)).up (by omega)
theorem ax_cl_set {n a : Nat} {sh : Nat → ax_S} {s : ax_S} (h : ax_cl n sh) (hs : ax_ok n s) : ax_cl n (shU sh a s) := fun k hk => by
  by_cases e : k = a
  · subst e
    rw [shU_s]
    exact hs
  · rw [shU_n e]
    exact h k hk
theorem ax_fv_ad {ad ad1 : Nat → Nat} {n : Nat} {q : Nat × Nat} {x : Int} (h : q.1 ≠ 3 ∧ (q.1 = 2 → q.2 < n)) (ha : ∀ k, k < n → ad1 k = ad k) : ax_fv ad1 q x = ax_fv ad q x := by
  obtain ⟨k, t⟩ := q
  by_cases h2 : k = 2
  · subst h2
    show Value.ref (ad1 t) = Value.ref (ad t)
    rw [ha t (h.2 rfl)]
  · unfold ax_fv
    split <;> first | rfl | (exfalso; exact h2 (by assumption)) | (exfalso; exact h.1 (by assumption))
theorem ax_e_ad {cA : Nat → ClassId} {ad ad1 : Nat → Nat} {n : Nat} {s : ax_S} {row : Nat → Int} (h : ax_ok n s) (ha : ∀ k, k < n → ad1 k = ad k) : ax_e cA ad1 s row = ax_e cA ad s row := by
  rcases s with ⟨ci, fs⟩ | ⟨k, len, tg⟩
  · show (Sum.inr (ci, _) : va_E) = Sum.inr (ci, _)
    congr 2
    apply List.map_congr_left
    intro j hj
    have hj2 : j < fs.length := List.mem_range.mp hj
    have hm : fs.getD j (4, 0) ∈ fs := by
      rw [List.getD_eq_getElem?_getD, List.getElem?_eq_getElem hj2]
      exact List.getElem_mem hj2
    exact ax_fv_ad (h _ hm) ha
  · have e : (fun i : Nat => (tg[i]?).map ad1) = (fun i : Nat => (tg[i]?).map ad) := by
      funext i
      cases e : tg[i]? with
      | none => rfl
      | some t => show some (ad1 t) = some (ad t); rw [ha t (h t (List.mem_of_getElem? e))]
    unfold ax_e
    dsimp only
    split <;> first | rfl | rw [e]
theorem ax_ws_push {cA : Nat → ClassId} {ad ad1 : Nat → Nat} {n : Nat} {sh : Nat → ax_S} {s : ax_S} {σ : Nat → Nat → Int} (h : ax_cl n sh) (ha : ∀ k, k < n → ad1 k = ad k) : ax_ws cA ad1 (n + 1) (shU sh n s) σ = ax_ws cA ad n sh σ ++ [(ad1 n, ax_e cA ad1 s (σ n))] := by
  unfold ax_ws
  rw [List.range_succ, List.map_append]
  congr 1
  · apply List.map_congr_left
    intro k hk
    have hk2 : k < n := List.mem_range.mp hk
    rw [ha k hk2, shU_n (by omega), ax_e_ad (h k hk2) ha]
  · show [(ad1 n, ax_e cA ad1 (shU sh n s n) (σ n))] = _
    rw [shU_s]
theorem ax_ws_shU {cA : Nat → ClassId} {ad : Nat → Nat} {n a : Nat} {sh : Nat → ax_S} {s : ax_S} {σ : Nat → Nat → Int} {e : va_E} (he : e = ax_e cA ad s (σ a)) : (ax_ws cA ad n sh σ).set a (ad a, e) = ax_ws cA ad n (shU sh a s) σ := by
  refine List.ext_getElem? fun k => ?_
  rw [List.getElem?_set]
  by_cases h : a = k
  · subst h
    rw [if_pos rfl, ax_ws_len]
    by_cases h2 : a < n
    · rw [if_pos h2, ax_ws_get h2, he, shU_s]
    · rw [if_neg h2]
      symm
      rw [List.getElem?_eq_none_iff, ax_ws_len]
      omega
  · rw [if_neg h]
    by_cases h2 : k < n
    · rw [ax_ws_get h2, ax_ws_get h2, shU_n (fun q => h q.symm)]
    · rw [List.getElem?_eq_none (by rw [ax_ws_len]; omega), List.getElem?_eq_none (by rw [ax_ws_len]; omega)]
/-- a row of zeros fits every shape -/
theorem ax_R0 {s : ax_S} {row : Nat → Int} (h : ∀ j, row j = 0) : ax_R s row := by
  rcases s with ⟨ci, fs⟩ | ⟨k, len, tg⟩
  · intro j _
    rw [h j]
    exact ⟨fun _ => Z_I0, fun _ => z_IL Z_I0⟩
  · intro j _
    rw [h j]
    exact ⟨fun _ => Z_I0, fun _ => z_IL Z_I0, fun _ => by omega, fun _ => Or.inl rfl⟩
theorem ax_Rk {s s' : ax_S} {row : Nat → Int} {ci : Nat} {fs fs' : List (Nat × Nat)} (h : ax_R (.inl (ci, fs)) row) (hl : fs'.length = fs.length) (hk : ∀ j, (fs'.getD j (4, 0)).1 = 0 ∨ (fs'.getD j (4, 0)).1 = 1 → (fs.getD j (4, 0)).1 = (fs'.getD j (4, 0)).1) : ax_R (.inl (ci, fs')) row := fun j hj => by
  have h2 := h j (by omega)
  exact ⟨fun z => h2.1 ((hk j (Or.inl z)).trans z), fun z => h2.2 ((hk j (Or.inr z)).trans z)⟩
section AWZ
variable {p : Program} {l : Launch} {e : Env} {R : Room} {s : State} {m : MethodId} {args : Array Value} {below : List Frame} {meth : Method} {c : Code} {D : va_G} {cA : Nat → ClassId} {sa ad : Nat → Nat} {bs n kc ks : Nat} {sh : Nat → ax_S} {Q : State → Prop} {cc : ByteArray} {nL pc : Nat} {own : String} {lv : List (Nat × Value)} {st st0 : List Value} {σ τ : Nat → Nat → Int}
theorem aw_re {lv' : List (Nat × Value)} {st' : List Value} (h1 : lv = lv') (h2 : st = st') (k : AW p l e R s m args below meth c D cA ad bs n sh kc ks Q nL pc lv' st' σ) : AW p l e R s m args below meth c D cA ad bs n sh kc ks Q nL pc lv st σ := by
  subst h1
  subst h2
  exact k
/-- the world with one cell more, at q -/
theorem ax_P_push {q : Nat} {s1 : ax_S} {H H1 : Heap} {E : va_E} (hP : ax_P D cA ad bs n sh σ H) (hcl : ax_cl n sh) (hz : ∀ j, σ n j = 0) (hE : E = ax_e cA (fun k => if k = n then q else ad k) s1 (σ n)) (h : va_P D vwCl (ax_ws cA ad n sh σ ++ [(q, E)]) H1) (hd : va_D (ax_A bs) (ax_ws cA ad n sh σ ++ [(q, E)])) : ax_P D cA (fun k => if k = n then q else ad k) bs (n + 1) (shU sh n s1) σ H1 := by
  have e1 : ax_ws cA (fun k => if k = n then q else ad k) (n + 1) (shU sh n s1) σ = ax_ws cA ad n sh σ ++ [(q, E)] := by
    rw [ax_ws_push hcl (fun k hk => if_neg (by omega)), hE]
    show _ ++ [((if n = n then q else ad n), _)] = _
    rw [if_pos rfl]
  refine ⟨by rw [e1]; exact h, by rw [e1]; exact hd, fun k hk => ?_⟩
  by_cases e : k = n
  · subst e
    rw [shU_s]
    exact ax_R0 hz
  · rw [shU_n e]
    exact hP.2.2 k (by omega)
theorem aw_objinit (X : AX p s m args meth c D cA sa bs cc nL own) {ix a : Nat} (hw : Cond.methodLink own ix Lib.objectInit ∈ ax_T ∧ Cond.instanceMethod Lib.objectInit ∈ ax_T ∧ Cond.code Lib.objectInit ⟨#[0xb1]⟩ 1 none ∈ ax_T) (hR : 1 ≤ R.frames ∧ (st.map fun v => v.category).sum + 12 ≤ R.locals) (d : decode cc pc = .ok (.invokespecial ix, 3)) (k : AW p l e R s m args below meth c D cA ad bs n sh kc ks Q nL (pc + 3) lv st σ) : AW p l e R s m args below meth c D cA ad bs n sh kc ks Q nL pc lv (.ref a :: st) σ :=
  fun H locs hP hS ls hl => W.objInit X.1 X.2.1 X.2.2.2.1 (X.2.2.2.2.1 _ hw.1) (X.2.2.2.2.1 _ hw.2.1) (X.2.2.2.2.1 _ hw.2.2) rfl (hl.1.trans X.2.2.1.symm) rfl d hR.1 (by show 2 * 0 + _ + 12 ≤ _; have := hR.2; omega) (k H locs hP hS ls hl)
theorem aw_newZ (X : AX p s m args meth c D cA sa bs cc nL own) {ix ci N : Nat} {C : String} {T : u_T} {ty : Nat → FieldType} {f0 : List (Nat × Nat)} (hc : vwCl[ci]? = some (C, T, N)) (hin : ∀ w ∈ u_ws C T N, w ∈ ax_T) (hty : ∀ k, k < N → parseFieldDescriptor (T k).2.2.1 = some (ty k)) (hw : Cond.classLink own ix C ∈ ax_T ∧ Cond.instantiable C N ∈ ax_T ∧ Cond.initialized C ∈ ax_T) (hf0 : f0.length = N ∧ (∀ q ∈ f0, q.1 ≠ 3 ∧ q.1 ≠ 2) ∧ ∀ j, j < N → defaultValue (ty j) = ax_fv (fun _ => 0) (f0.getD j (4, 0)) 0) (hb0 : bs ≤ s.heap.size) (hz : ∀ j, σ n j = 0) (hcl : ax_cl n sh) (hR : kc + 1 ≤ R.cells ∧ ks + N ≤ R.slots) (d : decode cc pc = .ok (.new ix, 3))
    (k : ∀ ad1 : Nat → Nat, (∀ k, k < n → ad1 k = ad k) → ax_cl (n + 1) (shU sh n (.inl (ci, f0))) → AW p l e R s m args below meth c D cA ad1 bs (n + 1) (shU sh n (.inl (ci, f0))) (kc + 1) (ks + N) Q nL (pc + 3) lv (.ref (ad1 n) :: st) σ) : AW p l e R s m args below meth c D cA ad bs n sh kc ks Q nL pc lv st σ :=
  fun H locs hP hS ls hl => by
    have hfv : ∀ (ad0 : Nat → Nat) (j : Nat), j < N → ax_fv ad0 (f0.getD j (4, 0)) (σ n j) = defaultValue (ty j) := fun ad0 j hj => by
      rw [hf0.2.2 j hj, hz j]
      have hj2 : j < f0.length := by rw [hf0.1]; exact hj
      have hm : f0.getD j (4, 0) ∈ f0 := by
        rw [List.getD_eq_getElem?_getD, List.getElem?_eq_getElem hj2]
        exact List.getElem_mem hj2
      have h3 := hf0.2.1 _ hm
      exact ax_fv_ad (n := 0) ⟨h3.1, fun z => absurd z h3.2⟩ (fun k hk => absurd hk (by omega))
    refine va_new (ci := ci) (fs := (List.range f0.length).map (fun k => ax_fv ad (f0.getD k (4, 0)) (σ n k))) X.1 X.2.1 X.2.2.2.2.1 hin ty hty X.2.2.2.1 (X.2.2.2.2.1 _ hw.1) (X.2.2.2.2.1 _ hw.2.1) (X.2.2.2.2.1 _ hw.2.2) X.2.2.2.2.2.1.1 hP.1 hP.2.1 hS (fun q hq => Nat.le_trans hb0 hq) hc (fun j hj => ?_) hR.1 hR.2 d (fun q H1 hP1 hD1 hS1 => ?_)
    · have e1 := ax_fs_get (ad := ad) (fs := f0) (row := σ n) (j := j) (by rw [hf0.1]; exact hj)
      show _ = List.getD _ j .null
      rw [List.getD_eq_getElem?_getD, e1]
      exact (hfv ad j hj).symm
    · have hok : ax_ok (n + 1) (.inl (ci, f0)) := fun q hq => ⟨(hf0.2.1 q hq).1, fun z => absurd z (hf0.2.1 q hq).2⟩
      have hok0 : ax_ok 0 (.inl (ci, f0)) := fun q hq => ⟨(hf0.2.1 q hq).1, fun z => absurd z (hf0.2.1 q hq).2⟩
      have h2 := k (fun k => if k = n then q else ad k) (fun k hk => if_neg (by omega)) (ax_cl_new hcl hok) H1 locs (ax_P_push (s1 := .inl (ci, f0)) hP hcl hz (ax_e_ad (cA := cA) (ad := fun k => if k = n then q else ad k) (ad1 := ad) hok0 (fun k hk => absurd hk (by omega))) hP1 hD1) hS1 ls hl
      simpa using h2
end AWZ
