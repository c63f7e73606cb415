-- calls of the abstract machine
theorem ax_good_cons {w : Cond} {ws : List Cond} (h : w ∈ ax_T) (h2 : GoodIn ax_T ws) : GoodIn ax_T (w :: ws) := fun v hv => by
  rcases List.mem_cons.mp hv with rfl | hv
  · exact ax_T_good _ h
  · exact h2 v hv
theorem ax_blind {D : va_G} {cA : Nat → ClassId} {sa ad : Nat → Nat} {bs n : Nat} {sh : Nat → ax_S} {av : List Value} {σ : Nat → Nat → Int} : FrameBlind (va_Pc av (fun U => ax_P D cA ad bs n sh σ U.heap ∧ ax_F D cA sa bs U)) := fun _ _ _ _ q => ⟨q.1, q.2.1, q.2.2.calling⟩
section AWC
variable {p : Program} {l : Launch} {e : Env} {R : Room} {s : State} {m : MethodId} {args : Array Value} {below : List Frame} {meth : Method} {c : Code} {D : va_G} {cA : Nat → ClassId} {sa ad : Nat → Nat} {bs n kc ks : Nat} {sh : Nat → ax_S} {Q : State → Prop} {cc : ByteArray} {nL pc : Nat} {own : String} {lv : List (Nat × Value)} {st st0 : List Value} {σ τ : Nat → Nat → Int}
theorem aw_cont {a : Array Value} {H : Heap} {locs : List Loc} {ls : Array Slot} {rv : Option Value} {PF : Prop} (hr : va_Run p l e R s m args below meth c H locs kc ks 0 0 (F0 m pc ls st0) st (ax_Qc D cA ad bs n sh rv PF τ a) (ax_A bs)) (hS : va_S (ax_A bs) s.heap H locs) (hl : lv_has ls nL lv) (k : PF → AW p l e R s m args below meth c D cA ad bs n sh kc ks Q nL (pc + 3) lv (rv.toList ++ st) τ) : W p l e R s m args below meth c H locs kc ks Q (F0 m pc ls st0) := by
  intro T hT X
  obtain ⟨v, st₀, t, T', L, h0, X', hL, e1, e2, ⟨⟨hv, hp⟩, hP, hF1, hF2⟩, stp⟩ := hr T hT X
  cases hv
  rw [h0] at hF1 hF2
  obtain ⟨t2, a1, b1⟩ := k hp T'.heap (locs ++ L) (by rw [e1]; exact hP) ⟨Nat.le_trans hS.1 (by rw [e1]; exact hF1), fun q h1 h2 => by rw [e1, hF2 q (Nat.lt_of_lt_of_le h1 hS.1) h2]; exact hS.2.1 q h1 h2, fun q hq => by
      rcases List.mem_append.mp hq with h | h
      · exact hS.2.2 q h
      · exact hL q h⟩ ls hl T' rfl X'
  exact ⟨t2, stp t2 a1, b1⟩
theorem aw_callV (X : AX p s m args meth c D cA sa bs cc nL own) {ix a ci nL' np d' : Nat} {fs : List (Nat × Nat)} {y : MethodName} {cc' : ByteArray} {ret' : Option FieldType} {rv : Option Value} {PF : Prop} (As : List Value) (st st1 : List Value) (hC : ax_cv own ix y cc' nL' ret' np) (hs : a < n ∧ sh a = .inl (ci, fs)) (hci : ∃ (T : u_T) (N : Nat), vwCl[ci]? = some (y.cls, T, N)) (hM : AM l D cA sa ad bs n sh y cc' nL' ret' d' (.ref (ad a) :: As) σ rv PF τ) (hnp : As.length = np) (hR : d' + 1 ≤ R.frames ∧ 8 + (nL' + 11) + 40 * d' ≤ R.locals ∧ kc ≤ R.cells ∧ ks ≤ R.slots) (hst : st0 = As.reverse ++ .ref (ad a) :: st) (hcat : (st.map fun v => v.category).sum ≤ 8) (hst1 : rv.toList ++ st = st1) (d : decode cc pc = .ok (.invokevirtual ix, 3)) (k : PF → AW p l e R s m args below meth c D cA ad bs n sh kc ks Q nL (pc + 3) lv st1 τ) : AW p l e R s m args below meth c D cA ad bs n sh kc ks Q nL pc lv st0 σ :=
  fun H locs hP hS ls hl => by
    subst hst
    subst hst1
    obtain ⟨T, N, hci⟩ := hci
    refine aw_cont (a := (Value.ref (ad a) :: As).toArray) (va_runV (As := As) (rest := st) (C := y.cls) (n := np) ⟨X.1, X.2.1, X.2.2.1, X.2.2.2.1, X.2.2.2.2.1⟩ hM (cwV np X.2.2.2.2.1 ?_ rfl rfl rfl ⟨rfl, hC.2⟩ ⟨hR.1, hR.2.1⟩) ⟨ax_blind, va_recv X.2.2.2.2.2.1.1 hP.1 hci (ax_ws_obj hs), fun U hU hW => ⟨rfl, by rw [hU]; exact hP, X.2.2.2.2.2.1.warm hS hU hW⟩⟩ rfl hnp hl.1 rfl (lv_room hcat) d hR.2.2) hS hl k
    exact ax_good_cons hC.1.1 (ax_good_cons hC.1.2.1 (ax_good_cons hC.1.2.2.1 (ax_good_cons hC.1.2.2.2.1 (ax_good_cons hC.1.2.2.2.2 ax_T_good))))
theorem aw_callS (X : AX p s m args meth c D cA sa bs cc nL own) {ix nL' np d' : Nat} {y : MethodName} {cc' : ByteArray} {ret' : Option FieldType} {rv : Option Value} {PF : Prop} (As : List Value) (st st1 : List Value) (hC : ax_cs own ix y cc' nL' ret' np) (hM : AM l D cA sa ad bs n sh y cc' nL' ret' d' As σ rv PF τ) (hnp : As.length = np) (hR : d' + 1 ≤ R.frames ∧ 8 + (nL' + 11) + 40 * d' ≤ R.locals ∧ kc ≤ R.cells ∧ ks ≤ R.slots) (hst : st0 = As.reverse ++ st) (hcat : (st.map fun v => v.category).sum ≤ 8) (hst1 : rv.toList ++ st = st1) (d : decode cc pc = .ok (.invokestatic ix, 3)) (k : PF → AW p l e R s m args below meth c D cA ad bs n sh kc ks Q nL (pc + 3) lv st1 τ) : AW p l e R s m args below meth c D cA ad bs n sh kc ks Q nL pc lv st0 σ :=
  fun H locs hP hS ls hl => by
    subst hst
    subst hst1
    exact aw_cont (a := As.toArray) (va_runS (As := As) (rest := st) (n := np) ⟨X.1, X.2.1, X.2.2.1, X.2.2.2.1, X.2.2.2.2.1⟩ hM ⟨callB_of np X.2.2.2.2.1 (ax_good_cons hC.1.2.2.2 ax_T_good) rfl rfl rfl (X.2.2.2.2.1 _ hC.1.2.2.1) (X.2.2.2.2.1 _ hC.1.1) hC.2 ⟨hR.1, hR.2.1⟩, X.2.2.2.2.1 _ hC.1.2.1⟩ ⟨ax_blind, fun U hU hW => ⟨rfl, by rw [hU]; exact hP, X.2.2.2.2.2.1.warm hS hU hW⟩⟩ rfl hnp hl.1 rfl (lv_room hcat) d hR.2.2) hS hl k
theorem aw_callN (X : AX p s m args meth c D cA sa bs cc nL own) {ix nL' np d' : Nat} {host : String} {y : MethodName} {cc' : ByteArray} {ret' : Option FieldType} {rv : Option Value} {PF : Prop} (As : List Value) (st st1 : List Value) (hC : ax_cn own ix y host cc' nL' ret' np) (hM : AM l D cA sa ad bs n sh y cc' nL' ret' d' As σ rv PF τ) (hnp : As.length = np) (hR : d' + 1 ≤ R.frames ∧ 8 + (nL' + 11) + 40 * d' ≤ R.locals ∧ kc ≤ R.cells ∧ ks ≤ R.slots) (hst : st0 = As.reverse ++ st) (hcat : (st.map fun v => v.category).sum ≤ 8) (hst1 : rv.toList ++ st = st1) (d : decode cc pc = .ok (.invokestatic ix, 3)) (k : PF → AW p l e R s m args below meth c D cA ad bs n sh kc ks Q nL (pc + 3) lv st1 τ) : AW p l e R s m args below meth c D cA ad bs n sh kc ks Q nL pc lv st0 σ :=
  fun H locs hP hS ls hl => by
    subst hst
    subst hst1
    exact aw_cont (a := As.toArray) (va_runSN (As := As) (rest := st) (n := np) ⟨X.1, X.2.1, X.2.2.1, X.2.2.2.1, X.2.2.2.2.1⟩ hM ⟨va_cnB np X.2.2.2.2.1 (ax_good_cons hC.1.2.2.2 ax_T_good) rfl rfl rfl (X.2.2.2.2.2.1.2.1 _ hC.1.1) (X.2.2.2.2.1 _ hC.1.2.2.1) hC.2 ⟨hR.1, hR.2.1⟩, X.2.2.2.2.1 _ hC.1.2.1, trivial⟩ ⟨ax_blind, fun U hU hW => ⟨rfl, by rw [hU]; exact hP, X.2.2.2.2.2.1.warm hS hU hW⟩⟩ rfl hnp hl.1 rfl (lv_room hcat) d hR.2.2) hS hl k
end AWC
