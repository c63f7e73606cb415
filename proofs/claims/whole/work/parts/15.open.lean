-- the copy of a static row, Math.floorMod
theorem st_in0 (i : Int) : Z_I (([0, 0, 1, 0, 1, 2] : List Int).getD i.toNat 0) := by
  have h : ∀ x ∈ ([0, 0, 1, 0, 1, 2] : List Int), Z_I x := by unfold Z_I; decide
  rw [List.getD_eq_getElem?_getD]
  cases e : ([0, 0, 1, 0, 1, 2] : List Int)[i.toNat]? with
  | none => exact Z_I0
  | some x => exact h x (List.mem_of_getElem? e)
theorem st_in1 (i : Int) : Z_I (([100, 20, 20, 9, 9999, 16] : List Int).getD i.toNat 0) := by
  have h : ∀ x ∈ ([100, 20, 20, 9, 9999, 16] : List Int), Z_I x := by unfold Z_I; decide
  rw [List.getD_eq_getElem?_getD]
  cases e : ([100, 20, 20, 9, 9999, 16] : List Int)[i.toNat]? with
  | none => exact Z_I0
  | some x => exact h x (List.mem_of_getElem? e)
theorem st_in2 (i : Int) : Z_I (([25, 3, 2, 0, 9999, 8] : List Int).getD i.toNat 0) := by
  have h : ∀ x ∈ ([25, 3, 2, 0, 9999, 8] : List Int), Z_I x := by unfold Z_I; decide
  rw [List.getD_eq_getElem?_getD]
  cases e : ([25, 3, 2, 0, 9999, 8] : List Int)[i.toNat]? with
  | none => exact Z_I0
  | some x => exact h x (List.mem_of_getElem? e)
theorem st_in3 (i : Int) : Z_I (([1, 2, 3, 1, 1, 1, 0] : List Int).getD i.toNat 0) := by
  have h : ∀ x ∈ ([1, 2, 3, 1, 1, 1, 0] : List Int), Z_I x := by unfold Z_I; decide
  rw [List.getD_eq_getElem?_getD]
  cases e : ([1, 2, 3, 1, 1, 1, 0] : List Int)[i.toNat]? with
  | none => exact Z_I0
  | some x => exact h x (List.mem_of_getElem? e)
theorem z_fmod_in (x y : Int) : Z_I (z_fmod x y) := by
  unfold z_fmod
  split
  · exact z_w_in _
  · split <;> exact z_w_in _
/-- a contract for a member that the machine has no entry for, of a class that has entries -/
theorem am_ofF {l : Launch} {D : va_G} {cA : Nat → ClassId} {sa ad : Nat → Nat} {bs n : Nat} {sh : Nat → ax_S} {y : MethodName} {cc : ByteArray} {nL : Nat} {ret : Option FieldType} {d : Nat} {av : List Value} {σ τ : Nat → Nat → Int} {rv : Option Value} {PF : Prop} (hy : plainFor y = true) (hlen : (lg_sl av).length ≤ nL)
    (body : ∀ (p : Program) (e : Env) (s : State) (m : MethodId) (args : Array Value) (below : List Frame) (meth : Method) (c : Code), AX p s m args meth c D cA sa bs cc nL y.cls → meth.sig.returnType = ret → AW p l e (ax_rm d 0 0) s m args below meth c D cA ad bs n sh 0 0 (ax_MQ below args s D cA ad bs n sh 0 0 rv PF τ) nL 0 (lv_args 0 av) [] σ) : AM l D cA sa ad bs n sh y cc nL ret d av σ rv PF τ := by
  refine va_MetF (cc := cc) (maxL := nL) (ret := ret) hy rfl ?_
  intro p e s m args below meth c s₁ B hml hv
  obtain ⟨rfl, hP, hF⟩ := hv
  have hts := atoms_spec (ws := Cond.code y cc nL ret :: ax_T) B.pre
  have X : AX p s m av.toArray meth c D cA sa bs cc nL y.cls := ⟨B.exec, B.bytes, hml, findClass_of_methodNamed B.named, fun w hw => hts w (List.mem_cons_of_mem _ hw), hF, B.notSynchronized⟩
  rw [lg_entry_eq]
  exact body p e s m _ below meth c X B.returns s.heap [] hP va_S.rf _ (lv_entry av hlen)
set_option maxHeartbeats 4000000 in
set_option maxRecDepth 100000 in
theorem C_floorMod (l : Launch) (D : va_G) (cA : Nat → ClassId) (sa ad : Nat → Nat) (bs n : Nat) (sh : Nat → ax_S) (x : Int) (cx : Z_I x) (y : Int) (cy : Z_I y) (h0 : ¬ y = 0) (σ : Nat → Nat → Int) : AM l D cA sa ad bs n sh yJ9_floorMod_7cf53 cJ9_floorMod_7cf53 3 (some .int) 0 [z_i x, z_i y] σ (some (z_i (z_fmod x y))) (Z_I (z_fmod x y)) σ := by
  refine am_ofF (by decide +kernel) (Nat.le_of_ble_eq_true rfl) (fun p e s m args below meth c X hr => ?_)
  refine aw_lv (lv' := [(0, z_i x), (1, z_i y)]) rfl ?_
  refine aw_iload_n X 0 dJ9_floorMod_7cf53_0 rfl rfl ?_
  refine aw_iload_n X 1 dJ9_floorMod_7cf53_1 rfl rfl ?_
  refine aw_irem X cx cy h0 dJ9_floorMod_7cf53_2 ?_
  refine aw_istore_n X [(2, z_i (z_w (Int.tmod x y))), (0, z_i x), (1, z_i y)] dJ9_floorMod_7cf53_3 rfl (by decide) rfl ?_
  refine aw_iload_n X 1 dJ9_floorMod_7cf53_4 rfl rfl ?_
  refine aw_iload_n X 2 dJ9_floorMod_7cf53_5 rfl rfl ?_
  refine aw_ixor X dJ9_floorMod_7cf53_6 ?_
  refine aw_if_ge X (tgt := 18) (z_xor_in _ _) dJ9_floorMod_7cf53_7 (by decide) (fun h => ?_) (fun h => ?_)
  · have e : z_fmod x y = z_w (Int.tmod x y) := by unfold z_fmod; rw [if_pos h]
    refine aw_iload_n X 0 dJ9_floorMod_7cf53_18 rfl rfl ?_
    rw [e]
    exact aw_iret X (z_w_in _) hr rfl dJ9_floorMod_7cf53_19
  · refine aw_iload_n X 0 dJ9_floorMod_7cf53_10 rfl rfl ?_
    refine aw_if_eq X (tgt := 18) (z_w_in _) dJ9_floorMod_7cf53_11 (by decide) (fun h2 => ?_) (fun h2 => ?_)
    · have e : z_fmod x y = z_w (Int.tmod x y) := by unfold z_fmod; rw [if_neg h, if_pos h2]
      refine aw_iload_n X 0 dJ9_floorMod_7cf53_18 rfl rfl ?_
      rw [e]
      exact aw_iret X (z_w_in _) hr rfl dJ9_floorMod_7cf53_19
    · have e : z_fmod x y = z_w (z_w (Int.tmod x y) + y) := by unfold z_fmod; rw [if_neg h, if_neg h2]
      refine aw_iload_n X 0 dJ9_floorMod_7cf53_14 rfl rfl ?_
      refine aw_iload_n X 2 dJ9_floorMod_7cf53_15 rfl rfl ?_
      refine aw_iadd X dJ9_floorMod_7cf53_16 ?_
      rw [e]
      exact aw_iret X (z_w_in _) hr rfl dJ9_floorMod_7cf53_17
theorem ax_st_in {r : Nat} {q : String × String × List Int} (hq : ax_st[r]? = some q) (i : Nat) : Z_I (q.2.2.getD i 0) := by
  have h : ∀ q ∈ ax_st, ∀ x ∈ q.2.2, Z_I x := by unfold Z_I; decide
  rw [List.getD_eq_getElem?_getD]
  cases e : q.2.2[i]? with
  | none => exact Z_I0
  | some x => exact h q (List.mem_of_getElem? hq) x (List.mem_of_getElem? e)
section AWX
variable {p : Program} {l : Launch} {e : Env} {R : Room} {s : State} {m : MethodId} {args : Array Value} {below : List Frame} {meth : Method} {c : Code} {D : va_G} {cA : Nat → ClassId} {sa ad : Nat → Nat} {bs n kc ks : Nat} {sh : Nat → ax_S} {Q : State → Prop} {cc : ByteArray} {nL pc : Nat} {own : String} {lv : List (Nat × Value)} {st st0 : List Value} {σ τ : Nat → Nat → Int}
theorem aw_fmod (X : AX p s m args meth c D cA sa bs cc nL own) {ix : Nat} {x y : Int} (cx : Z_I x) (cy : Z_I y) (h0 : ¬ y = 0) (hw : Cond.methodLink own ix yJ9_floorMod_7cf53 ∈ ax_T ∧ Cond.static yJ9_floorMod_7cf53 ∈ ax_T ∧ Cond.code yJ9_floorMod_7cf53 cJ9_floorMod_7cf53 3 (some .int) ∈ ax_T ∧ Cond.initialized "java/lang/Math" ∈ ax_T) (hR : 1 ≤ R.frames ∧ 22 ≤ R.locals ∧ kc ≤ R.cells ∧ ks ≤ R.slots) (hcat : (st.map fun v => v.category).sum ≤ 8) (d : decode cc pc = .ok (.invokestatic ix, 3)) (k : AW p l e R s m args below meth c D cA ad bs n sh kc ks Q nL (pc + 3) lv (z_i (z_fmod x y) :: st) σ) : AW p l e R s m args below meth c D cA ad bs n sh kc ks Q nL pc lv (z_i y :: z_i x :: st) σ :=
  aw_callS X (np := 2) [z_i x, z_i y] st (z_i (z_fmod x y) :: st) ⟨⟨hw.1, hw.2.1, hw.2.2.2, hw.2.2.1⟩, by decide +kernel⟩ (C_floorMod l D cA sa ad bs n sh x cx y cy h0 σ) rfl ⟨hR.1, by omega, hR.2.2⟩ rfl hcat rfl d (fun _ => k)
theorem aw_cpyS (X : AX p s m args meth c D cA sa bs cc nL own) {a len ix r : Nat} {tg : List Nat} {sp dp ln : Int} {q : String × String × List Int} {rws : List Int} (hq : ax_st[r]? = some q) (hrw : q.2.2 = rws) (hw : Cond.methodLink own ix arraycopyName ∈ ax_T ∧ Cond.native arraycopyName ∈ ax_T ∧ Cond.static arraycopyName ∈ ax_T ∧ Cond.initialized "java/lang/System" ∈ ax_T) (hs : a < n ∧ sh a = .inr (0, len, tg)) (c1 : Z_I sp) (c2 : Z_I dp) (c3 : Z_I ln) (h1 : 0 ≤ sp) (h2 : 0 ≤ dp) (h3 : 0 ≤ ln) (h4 : sp + ln ≤ q.2.2.length) (h5 : dp + ln ≤ len) (hR : 1 ≤ R.frames ∧ (st.map fun v => v.category).sum + (nativeFrameWords "java/lang/System" "arraycopy" 5 + 11) ≤ R.locals) (d : decode cc pc = .ok (.invokestatic ix, 3)) (k : AW p l e R s m args below meth c D cA ad bs n sh kc ks Q nL (pc + 3) lv st (z_cpyS σ rws a sp.toNat dp.toNat ln.toNat)) : AW p l e R s m args below meth c D cA ad bs n sh kc ks Q nL pc lv (z_i ln :: z_i dp :: .ref (ad a) :: z_i sp :: .ref (sa r) :: st) σ :=
  fun H locs hP hS ls hl => by
    subst hrw
    have ng : ∀ {x : Int}, Z_I x → 0 ≤ x → ¬ Int32.ofInt x < 0 := fun {x} hx h q => by
      rw [← z_0, z_lt hx Z_I0] at q
      omega
    intro T hT XS
    obtain ⟨scr, g1, g2, g3, g4, -, g5, g6⟩ := (X.2.2.2.2.2.1.2.2.1.1 r q hq).2
    have hc0 : H[sa r]? = some scr := by rw [hS.2.1 (sa r) (Array.getElem?_eq_some_iff.mp g1).1 g6]; exact g1
    have ha1 := ax_ws_arr (cA := cA) (ad := ad) (σ := σ) hs
    have hc1 : H[ad a]? = some (vp_cell (cA 0) (len, .inl (fun i => Int32.ofInt (σ a i)))) := hP.1 a _ ha1
    obtain ⟨g7, k0, hk0, cm0, hkk0⟩ := g2
    obtain ⟨-, k1, hk1, cm1, hkk1⟩ := (X.2.2.2.2.2.1.1.2 0 (cA 0, .int) rfl).1 len (fun j => .int (Int32.ofInt (σ a j)))
    obtain ⟨vm', X', step⟩ := XS.arraycopy X.1 X.2.2.2.1 (X.2.2.2.2.1 _ hw.1) (X.2.2.2.2.1 _ hw.2.1) (X.2.2.2.2.1 _ hw.2.2.1) (X.2.2.2.2.1 _ hw.2.2.2) (src := sa r) (dst := ad a) (cs := scr) (cd := vp_cell (cA 0) (len, .inl (fun i => Int32.ofInt (σ a i)))) (srcPos := Int32.ofInt sp) (destPos := Int32.ofInt dp) (n := Int32.ofInt ln) (by rw [hT]; exact hc0) (by rw [hT]; exact hc1)
      g7 (fun _ h => by cases h) g3 (fun h => by cases h) hk0 hk1 hkk0 hkk1 (by simp [refKind]) (ng c1 h1) (ng c2 h2) (ng c3 h3)
      (by rw [z_t c1, z_t c3]; omega)
      (by rw [z_t c2, z_t c3]; show ¬ _ > ((arrV (cA 0) len (fun j => .int (Int32.ofInt (σ a j)))).slots.size : Int); rw [arrV_size]; omega)
      (fun vm₁ _ i hi => by
        rw [z_cl c3] at hi
        have e : scr.slots.getD ((Int32.ofInt sp).toNatClampNeg + i) .null = z_i (q.2.2.getD ((Int32.ofInt sp).toNatClampNeg + i) 0) := by
          rw [Array.getD_eq_getD_getElem?, g5 _ (by rw [z_cl c1]; omega)]
          rfl
        refine ⟨?_, ?_⟩
        · rw [e]
          rfl
        · rw [e]
          exact trivial)
      (g := F0 m pc ls (z_i ln :: z_i dp :: .ref (ad a) :: z_i sp :: .ref (sa r) :: st)) rfl (hl.1.trans X.2.2.1.symm) (rest := st) rfl (by rw [X.2.1]; exact d) hR.1 (by show 2 * 0 + _ + _ ≤ _; have := hR.2; omega)
    have e1 : copied scr (vp_cell (cA 0) (len, .inl (fun i => Int32.ofInt (σ a i)))) (Int32.ofInt sp) (Int32.ofInt dp) (Int32.ofInt ln) = vp_cell (cA 0) (len, .inl (va_cpy (fun j => Int32.ofInt (q.2.2.getD j 0)) (fun i => Int32.ofInt (σ a i)) (Int32.ofInt sp).toNatClampNeg (Int32.ofInt dp).toNatClampNeg (Int32.ofInt ln).toNatClampNeg)) := va_copiedX (n0 := q.2.2.length) (n1 := len) (sp := (Int32.ofInt sp).toNatClampNeg) (dp := (Int32.ofInt dp).toNatClampNeg) (n := (Int32.ofInt ln).toNatClampNeg) (fun z => .int z) scr (cA 0) (fun j => Int32.ofInt (q.2.2.getD j 0)) (fun i => Int32.ofInt (σ a i)) g5 (by rw [z_cl c1, z_cl c3]; omega)
    rw [e1] at X' step
    generalize hE : vp_cell (cA 0) (len, .inl (va_cpy (fun j => Int32.ofInt (q.2.2.getD j 0)) (fun i => Int32.ofInt (σ a i)) (Int32.ofInt sp).toNatClampNeg (Int32.ofInt dp).toNatClampNeg (Int32.ofInt ln).toNatClampNeg)) = E at X' step
    have hlt : ad a < H.size := (Array.getElem?_eq_some_iff.mp hc1).1
    have hheap : ((T.setVm vm').setCell (ad a) E).heap = H.setIfInBounds (ad a) E := by rw [← hT]; rfl
    have oq : ∀ z : Nat, z ≠ ad a → (H.setIfInBounds (ad a) E)[z]? = H[z]? := fun z hz => by simp [Array.getElem?_setIfInBounds, Ne.symm hz]
    have hAa : ax_A bs (ad a) := hP.2.1.2 a _ ha1
    have hset : (H.setIfInBounds (ad a) E)[ad a]? = some E := by simp [Array.getElem?_setIfInBounds, hlt]
    have eW : (Sum.inl (cA 0, len, Sum.inl (va_cpy (fun j => Int32.ofInt (q.2.2.getD j 0)) (fun i => Int32.ofInt (σ a i)) (Int32.ofInt sp).toNatClampNeg (Int32.ofInt dp).toNatClampNeg (Int32.ofInt ln).toNatClampNeg)) : va_E) = ax_e cA ad (sh a) (z_cpyS σ q.2.2 a sp.toNat dp.toNat ln.toNat a) := by
      rw [hs.2, z_cl c1, z_cl c2, z_cl c3]
      show _ = (Sum.inl (cA 0, len, Sum.inl (fun i => Int32.ofInt (z_cpyS σ q.2.2 a sp.toNat dp.toNat ln.toNat a i))) : va_E)
      congr 3
      congr 1
      funext i
      unfold va_cpy z_cpyS
      by_cases hb : dp.toNat ≤ i ∧ i < dp.toNat + ln.toNat
      · rw [if_pos hb, if_pos ⟨rfl, hb⟩]
      · rw [if_neg hb, if_neg (fun z => hb z.2)]
    have ho : ∀ b, b ≠ a → z_cpyS σ q.2.2 a sp.toNat dp.toNat ln.toNat b = σ b := fun b hb => funext fun j => if_neg (fun z => hb z.1)
    have hP1 := hP.1.set hP.2.1 ha1 (e := .inl (cA 0, len, Sum.inl (va_cpy (fun j => Int32.ofInt (q.2.2.getD j 0)) (fun i => Int32.ofInt (σ a i)) (Int32.ofInt sp).toNatClampNeg (Int32.ofInt dp).toNatClampNeg (Int32.ofInt ln).toNatClampNeg))) (H1 := H.setIfInBounds (ad a) E) (by show (H.setIfInBounds (ad a) E)[ad a]? = some _; rw [hset, ← hE]) oq
    have hD1 := hP.2.1.set (e := .inl (cA 0, len, Sum.inl (va_cpy (fun j => Int32.ofInt (q.2.2.getD j 0)) (fun i => Int32.ofInt (σ a i)) (Int32.ofInt sp).toNatClampNeg (Int32.ofInt dp).toNatClampNeg (Int32.ofInt ln).toNatClampNeg))) ha1
    rw [ax_ws_set eW ho] at hP1 hD1
    have hR1 : ∀ b, b < n → ax_R (sh b) (z_cpyS σ q.2.2 a sp.toNat dp.toNat ln.toNat b) := fun b hb => by
      by_cases eb : b = a
      · subst eb
        have h0 := hP.2.2 b hb
        rw [hs.2] at h0 ⊢
        intro i hi
        by_cases e2 : dp.toNat ≤ i ∧ i < dp.toNat + ln.toNat
        · rw [show z_cpyS σ q.2.2 b sp.toNat dp.toNat ln.toNat b i = q.2.2.getD (sp.toNat + (i - dp.toNat)) 0 from if_pos ⟨rfl, e2⟩]
          exact ⟨fun _ => ax_st_in hq _, fun h => absurd h (by decide), fun h => absurd h (by decide), fun h => absurd h (by decide)⟩
        · rw [show z_cpyS σ q.2.2 b sp.toNat dp.toNat ln.toNat b i = σ b i from if_neg (fun z => e2 z.2)]
          exact h0 i hi
      · rw [ho b eb]
        exact hP.2.2 b hb
    obtain ⟨t, a1, b1⟩ := k (H.setIfInBounds (ad a) E) _ ⟨hP1, hD1, hR1⟩ ⟨by simp; exact hS.1, fun z q1 q2 => by
        rw [oq z (fun e => q2 (by rw [e]; exact hAa))]
        exact hS.2.1 z q1 q2, fun z hz => by
        rcases List.mem_append.mp hz with h | h
        · exact hS.2.2 z h
        · obtain ⟨w, -, hw2⟩ := List.mem_map.mp h
          rw [← hw2]
          exact hAa⟩ ls hl _ hheap X'
    exact ⟨t, step t a1, b1⟩
end AWX
theorem wX4_21 : Cond.methodLink RX4 21 yJ9_floorMod_7cf53 ∈ ax_T ∧ Cond.static yJ9_floorMod_7cf53 ∈ ax_T ∧ Cond.code yJ9_floorMod_7cf53 cJ9_floorMod_7cf53 3 (some .int) ∈ ax_T ∧ Cond.initialized "java/lang/Math" ∈ ax_T := ⟨(ax_at 1182 (by decide +kernel) rfl), (ax_at 1183 (by decide +kernel) rfl), (ax_at 1184 (by decide +kernel) rfl), (ax_at 150 (by decide +kernel) rfl)⟩
def ax_len (s : ax_S) : Nat := match s with
  | .inr (_, n, _) => n
  | _ => 0
theorem z_len0 : ∀ a, a < 788 → ax_len (SHp a) < 100000 := by decide +kernel
theorem z_len {a k n : Nat} {tg : List Nat} (h : a < 788 ∧ SHp a = .inr (k, n, tg)) : Z_I (n : Int) := by
  have h2 := z_len0 a h.1
  rw [h.2] at h2
  have h3 : n < 100000 := h2
  unfold Z_I
  omega
