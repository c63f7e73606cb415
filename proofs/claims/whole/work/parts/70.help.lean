-- the law's helper cluster: it catches what the class throws
theorem xH_42 : Cond.methodLink RLw 42 yL_cluster ∈ ax_T := ax_at 1414 (by decide +kernel) rfl
theorem xH_st : Cond.static yL_cluster ∈ ax_T := ax_at 1415 (by decide +kernel) rfl
theorem xH_cw : Cond.codeWith yL_cluster cL_cluster 5 (some .int) [(0, 10, 13, 13)] ∈ ax_T := ax_at 1416 (by decide +kernel) rfl
theorem xH_13 : Cond.classLink RLw 13 xN ∈ ax_T := ax_at 1417 (by decide +kernel) rfl
theorem xH_ini : Cond.initialized RLw ∈ ax_T := ax_at 131 (by decide +kernel) rfl
theorem ax_blindX {D : va_G} {cA : Nat → ClassId} {sa ad : Nat → Nat} {bs n : Nat} {sh : Nat → ax_S} {av : List Value} {σ : Nat → Nat → Int} : FrameBlind (va_Pc av (fun U => ax_P D cA ad bs n sh σ U.heap ∧ ax_F D cA sa bs U ∧ ax_Z bs U)) := fun _ _ _ _ q => ⟨q.1, q.2.1, q.2.2.1.calling, q.2.2.2.calling⟩
/-- the body of a method with handlers that doesn't throw -/
theorem x_ofWH {l : Launch} {y : MethodName} {ws ws' : List Cond} {rm : Room} {Pc : Array Value → State → Prop} {Qc : Array Value → State → Outcome → State → Prop} {mc ms : Nat} {free : Addr → Prop} {cc : ByteArray} {maxL : Nat} {ret : Option FieldType} {hh : List (Nat × Nat × Nat × Nat)}
    (hy : plainName y.cls = true) (hw : ws = Cond.codeWith y cc maxL ret hh :: ws')
    (body : ∀ p e s m args below meth c s₁, BodyLoose p l y (headSpec ws rm) cc maxL ret e s m args below meth c s₁ → c.maxLocals = maxL → Pc args s →
      W p l e (headSpec ws rm).room s m args below meth c s.heap [] 0 0 (MQ below Qc args s mc ms free) (entryFrame m args maxL)) : Met l y ws rm Pc Qc mc ms free := by
  refine MetFree.of_bodyS (code := cc) (maxLocals := maxL) (ret := ret) hy ?_ ?_
  · intro args s m h hn
    obtain ⟨m9, meth, c, hn9, h1, h2, h3, h4, -, h5, h6, -⟩ := Cond.codeWith_spec (atoms_spec (ws := ws) h _ (by rw [hw]; exact List.mem_cons_self))
    cases hn.symm.trans hn9
    exact ⟨meth, c, h1, h2, h3, h4, h5, h6⟩
  · intro p e s m args below meth c s₁ B hml hP _
    have hh0 : s₁.heap = s.heap := by rw [B.state]; rfl
    obtain ⟨t, a1, o, b1, b2, b3⟩ := body p e s m args below meth c s₁ B hml hP s₁ hh0 (Stand.of_body B)
    exact ⟨t, o, a1, b1, b2, ⟨b3.1, b3.2⟩⟩
def xHk (o : Option Int) : Int := match o with
  | none => 1
  | some _ => 0
def xHm (σ : Nat → Nat → Int) (o : Option Int) : Nat → Nat → Int := match o with
  | none => σ
  | some r => u2 σ 787 0 r
def HM (l : Launch) (D : va_G) (cA : Nat → ClassId) (sa ad : Nat → Nat) (bs : Nat) (v1 v2 : Int) (σ : Nat → Nat → Int) (o : Option Int) : Prop :=
  Met l yL_cluster (Cond.codeWith yL_cluster cL_cluster 5 (some .int) [(0, 10, 13, 13)] :: ax_T) (ax_rm 9 1 6) (va_Pc [.ref (ad 0), z_i v1, z_i v2, .ref (ad 787)] (fun U => ax_P D cA ad bs 788 SHp σ U.heap ∧ ax_F D cA sa bs U ∧ ax_Z bs U)) (ax_Qc D cA ad bs 788 SHp (some (z_i (xHk o))) (∀ r, o = some r → Z_I r) (xHm σ o)) 1 6 (ax_A bs)
section S_XH
variable {p : Program} {l : Launch} {e : Env} {R : Room} {s : State} {m : MethodId} {args : Array Value} {below : List Frame} {meth : Method} {c : Code} {D : va_G} {cA : Nat → ClassId} {sa ad : Nat → Nat} {bs n kc ks : Nat} {sh : Nat → ax_S} {Q : State → Prop} {cc : ByteArray} {nL pc : Nat} {own : String} {lv : List (Nat × Value)} {st st0 : List Value} {σ τ : Nat → Nat → Int} {o : Option Int} {v1 v2 : Int}
theorem aw_contM {a : Array Value} {H : Heap} {locs : List Loc} {ls : Array Slot} {rv : Option Value} {PF : Prop} {mc ms : Nat} (hr : va_Run p l e R s m args below meth c H locs kc ks mc ms (F0 m pc ls st0) st (ax_Qc D cA ad bs n sh rv PF τ a) (ax_A bs)) (hS : va_S (ax_A bs) s.heap H locs) (hl : lv_has ls nL lv) (k : PF → AW p l e R s m args below meth c D cA ad bs n sh (kc + mc) (ks + ms) Q nL (pc + 3) lv (rv.toList ++ st) τ) : W p l e R s m args below meth c H locs kc ks Q (F0 m pc ls st0) := by
  intro T hT X
  obtain ⟨v, st₀, t, T', L, h0, X', hL, e1, e2, ⟨⟨hv, hp⟩, hP, hF1, hF2⟩, stp⟩ := hr T hT X
  cases hv
  rw [h0] at hF1 hF2
  obtain ⟨t2, a1, b1⟩ := k hp T'.heap (locs ++ L) (by rw [e1]; exact hP) ⟨Nat.le_trans hS.1 (by rw [e1]; exact hF1), fun q h1 h2 => by rw [e1, hF2 q (Nat.lt_of_lt_of_le h1 hS.1) h2]; exact hS.2.1 q h1 h2, fun q hq => by
      rcases List.mem_append.mp hq with h | h
      · exact hS.2.2 q h
      · exact hL q h⟩ ls hl T' rfl X'
  exact ⟨t2, stp t2 a1, b1⟩
theorem aw_contX {a : Array Value} {H : Heap} {locs : List Loc} {ls : Array Slot} (hr : vx_Run p l e R s m args below meth c H locs kc ks 1 6 (F0 m pc ls st0) st (XQ D cA ad bs σ o a) (XX D cA ad bs σ o) (ax_A bs)) (hS : va_S (ax_A bs) s.heap H locs) (hl : lv_has ls nL lv) (k : ∀ r : Int, o = some r → Z_I r → AW p l e R s m args below meth c D cA ad bs 788 SHp (kc + 1) (ks + 6) Q nL (pc + 3) lv (z_i r :: st) σ) (kx : o = none → ∀ (H1 : Heap) (locs1 : List Loc) (ls1 : Array Slot) (q : Addr) (ce : Cell), ax_P D cA ad bs 788 SHp σ H1 → va_S (ax_A bs) s.heap H1 locs1 → lv_has ls1 nL lv → H1[q]? = some ce → ce.vm = .none → s.vm.findClass xN = some ce.cls → vx_W p l e R s m args below meth c H1 locs1 (kc + 1) (ks + 6) Q (F0 m pc ls1 st) q) : W p l e R s m args below meth c H locs kc ks Q (F0 m pc ls st0) := by
  intro T hT X
  rcases hr T hT X with ⟨v, st₀, t, T', L, h0, X', hL, e1, e2, ⟨r, ho, cr, hv, hP, hF1, hF2⟩, stp⟩ | ⟨q, st₀, t, T', L, E, ce, h0, X', hL, e1, e2, ⟨ho, hE, hP, hF1, hF2⟩, hce, hcv, hcl, stp⟩
  · cases hv
    rw [h0] at hF1 hF2
    obtain ⟨t2, a1, b1⟩ := k r ho cr T'.heap (locs ++ L) (by rw [e1]; exact hP) ⟨Nat.le_trans hS.1 (by rw [e1]; exact hF1), fun q h1 h2 => by rw [e1, hF2 q (Nat.lt_of_lt_of_le h1 hS.1) h2]; exact hS.2.1 q h1 h2, fun q hq => by
        rcases List.mem_append.mp hq with h | h
        · exact hS.2.2 q h
        · exact hL q h⟩ ls hl T' rfl X'
    exact ⟨t2, stp t2 a1, b1⟩
  · subst hE
    rw [h0] at hF1 hF2
    obtain ⟨t2, a1, b1⟩ := kx ho T'.heap (locs ++ L) ls q ce (by rw [e1]; exact hP) ⟨Nat.le_trans hS.1 (by rw [e1]; exact hF1), fun q h1 h2 => by rw [e1, hF2 q (Nat.lt_of_lt_of_le h1 hS.1) h2]; exact hS.2.1 q h1 h2, fun q hq => by
        rcases List.mem_append.mp hq with h | h
        · exact hS.2.2 q h
        · exact hL q h⟩ hl (by rw [e1]; exact hce) hcv hcl T' rfl X'
    exact ⟨t2, stp.trans a1, b1⟩
theorem aw_callX (X : AX p s m args meth c D cA sa bs cc nL own) {ix : Nat} (st : List Value) (hC : ax_cv own ix yX11_cluster cX11_cluster 3 (some .int) 2) (hZ : ax_Z bs s) (hM : XM l D cA sa ad bs v1 v2 σ o) (hR : 9 ≤ R.frames ∧ 342 ≤ R.locals ∧ kc + 1 ≤ R.cells ∧ ks + 6 ≤ R.slots) (hcat : (st.map fun v => v.category).sum ≤ 8) (d : decode cc pc = .ok (.invokevirtual ix, 3)) (k : ∀ r : Int, o = some r → Z_I r → AW p l e R s m args below meth c D cA ad bs 788 SHp (kc + 1) (ks + 6) Q nL (pc + 3) lv (z_i r :: st) σ) (kx : o = none → ∀ (H1 : Heap) (locs1 : List Loc) (ls1 : Array Slot) (q : Addr) (ce : Cell), ax_P D cA ad bs 788 SHp σ H1 → va_S (ax_A bs) s.heap H1 locs1 → lv_has ls1 nL lv → H1[q]? = some ce → ce.vm = .none → s.vm.findClass xN = some ce.cls → vx_W p l e R s m args below meth c H1 locs1 (kc + 1) (ks + 6) Q (F0 m pc ls1 st) q) : AW p l e R s m args below meth c D cA ad bs 788 SHp kc ks Q nL pc lv (z_i v2 :: z_i v1 :: .ref (ad 0) :: st) σ :=
  fun H locs hP hS ls hl => by
    obtain ⟨T, N, hci⟩ := ciX11
    refine aw_contX (a := ([.ref (ad 0), z_i v1, z_i v2] : List Value).toArray) (vx_runV (As := [z_i v1, z_i v2]) (rest := st) (C := RX11) (n := 2) ⟨X.1, X.2.1, X.2.2.1, X.2.2.2.1, X.2.2.2.2.1⟩ hM (cwV 2 X.2.2.2.2.1 ?_ rfl rfl rfl ⟨rfl, hC.2⟩ ⟨hR.1, hR.2.1⟩) ⟨ax_blindX, va_recv X.2.2.2.2.2.1.1 hP.1 hci (ax_ws_obj s_0), fun U hU hW => ⟨rfl, by rw [hU]; exact hP, X.2.2.2.2.2.1.warm hS hU hW, hZ.warm hS hU hW⟩⟩ rfl rfl hl.1 rfl (lv_room hcat) d hR.2.2) hS hl k kx
    exact ax_good_cons hC.1.1 (ax_good_cons hC.1.2.1 (ax_good_cons hC.1.2.2.1 (ax_good_cons hC.1.2.2.2.1 (ax_good_cons hC.1.2.2.2.2 ax_T_good))))
theorem aw_callH (X : AX p s m args meth c D cA sa bs cc nL RLw) (st : List Value) (hZ : ax_Z bs s) (hM : HM l D cA sa ad bs v1 v2 σ o) (hR : 10 ≤ R.frames ∧ 384 ≤ R.locals ∧ kc + 1 ≤ R.cells ∧ ks + 6 ≤ R.slots) (hcat : (st.map fun v => v.category).sum ≤ 8) (d : decode cc pc = .ok (.invokestatic 42, 3)) (k : (∀ r, o = some r → Z_I r) → AW p l e R s m args below meth c D cA ad bs 788 SHp (kc + 1) (ks + 6) Q nL (pc + 3) lv (z_i (xHk o) :: st) (xHm σ o)) : AW p l e R s m args below meth c D cA ad bs 788 SHp kc ks Q nL pc lv (.ref (ad 787) :: z_i v2 :: z_i v1 :: .ref (ad 0) :: st) σ :=
  fun H locs hP hS ls hl => by
    refine aw_contM (rv := some (z_i (xHk o))) (a := ([.ref (ad 0), z_i v1, z_i v2, .ref (ad 787)] : List Value).toArray) (vx_runSW (As := [.ref (ad 0), z_i v1, z_i v2, .ref (ad 787)]) (rest := st) (n := 4) ⟨X.1, X.2.1, X.2.2.1, X.2.2.2.1, X.2.2.2.2.1⟩ hM (vx_cwSW 4 X.2.2.2.2.1 ?_ rfl rfl rfl (by decide +kernel) ⟨hR.1, hR.2.1⟩) ⟨ax_blindX, fun U hU hW => ⟨rfl, by rw [hU]; exact hP, X.2.2.2.2.2.1.warm hS hU hW, hZ.warm hS hU hW⟩⟩ rfl rfl hl.1 rfl (lv_room hcat) d hR.2.2) hS hl k
    exact ax_good_cons xH_42 (ax_good_cons xH_st (ax_good_cons xH_ini (ax_good_cons xH_cw ax_T_good)))
end S_XH
theorem C_L_cluster (l : Launch) (D : va_G) (cA : Nat → ClassId) (sa ad : Nat → Nat) (bs : Nat) (v1 v2 : Int) (σ : Nat → Nat → Int) (o : Option Int) (hM : XM l D cA sa ad bs v1 v2 σ o) : HM l D cA sa ad bs v1 v2 σ o := by
  refine x_ofWH (cc := cL_cluster) (maxL := 5) (ret := some .int) (by decide +kernel) rfl ?_
  intro p e s m args below meth c s₁ B hml hv
  obtain ⟨rfl, hP, hF, hZ⟩ := hv
  have hts := atoms_spec (ws := Cond.codeWith yL_cluster cL_cluster 5 (some .int) [(0, 10, 13, 13)] :: ax_T) B.pre
  have htb := vx_table (x := yL_cluster) B (hts _ List.mem_cons_self)
  have X : AX p s m (#[.ref (ad 0), z_i v1, z_i v2, .ref (ad 787)] : Array Value) meth c D cA sa bs cL_cluster 5 RLw := ⟨B.exec, B.bytes, hml, findClass_of_methodNamed B.named, fun w hw => hts w (List.mem_cons_of_mem _ hw), hF, B.notSynchronized⟩
  have hr := B.returns
  have K : AW p l e (ax_rm 9 1 6) s m (#[.ref (ad 0), z_i v1, z_i v2, .ref (ad 787)] : Array Value) below meth c D cA ad bs 788 SHp 0 0 (ax_MQ below (#[.ref (ad 0), z_i v1, z_i v2, .ref (ad 787)] : Array Value) s D cA ad bs 788 SHp 1 6 (some (z_i (xHk o))) (∀ r, o = some r → Z_I r) (xHm σ o)) 5 0 [(0, .ref (ad 0)), (1, z_i v1), (2, z_i v2), (3, .ref (ad 787))] [] σ := by
    refine aw_aload_n X 3 dL_cluster_0 rfl rfl ?_
    refine aw_iconst X dL_cluster_1 ?_
    refine aw_aload_n X 0 dL_cluster_2 rfl rfl ?_
    refine aw_iload_n X 1 dL_cluster_3 rfl rfl ?_
    refine aw_iload_n X 2 dL_cluster_4 rfl rfl ?_
    refine aw_callX X [z_i 0, .ref (ad 787)] cL_7 hZ hM ⟨(Nat.le_of_ble_eq_true rfl), (Nat.le_of_ble_eq_true rfl), (Nat.le_of_ble_eq_true rfl), (Nat.le_of_ble_eq_true rfl)⟩ (Nat.le_of_ble_eq_true rfl) dL_cluster_5 (fun r ho cr => ?_) (fun ho H1 locs1 ls1 q ce hP1 hS1 hl1 hc hv hcl => ?_)
    · subst ho
      refine aw_i2l X cr dL_cluster_8 ?_
      refine aw_last X s_787 (z_lit (x := 0) (by decide)) (by decide) (by decide) (j := 0) rfl (z_IL cr) dL_cluster_9 ?_
      refine aw_goto X (tgt := 17) dL_cluster_10 (by decide) ?_
      refine aw_iconst X dL_cluster_17 ?_
      exact aw_iret X (fun r' h => by cases h; exact cr) hr rfl dL_cluster_18
    · subst ho
      refine vx_catch (own := RLw) (name := xN) (E := xN) X.2.2.2.1 [] ⟨0, 10, 13, 13⟩ [] (by rw [htb]; rfl) (fun z hz => nomatch hz) (by decide) (by decide) (X.2.2.2.2.1 _ xH_13) (va_Nw.use rfl hZ.2.2.2.2.2) hc hv hcl ?_
      have KH : AW p l e (ax_rm 9 1 6) s m (#[.ref (ad 0), z_i v1, z_i v2, .ref (ad 787)] : Array Value) below meth c D cA ad bs 788 SHp (0 + 1) (0 + 6) (ax_MQ below (#[.ref (ad 0), z_i v1, z_i v2, .ref (ad 787)] : Array Value) s D cA ad bs 788 SHp 1 6 (some (z_i (xHk none))) (∀ r, (none : Option Int) = some r → Z_I r) (xHm σ none)) 5 13 [(0, .ref (ad 0)), (1, z_i v1), (2, z_i v2), (3, .ref (ad 787))] [.ref q] σ := by
        refine aw_astore X (i := 4) [(4, .ref q), (0, .ref (ad 0)), (1, z_i v1), (2, z_i v2), (3, .ref (ad 787))] dL_cluster_13 (by decide) rfl ?_
        refine aw_iconst X dL_cluster_15 ?_
        exact aw_iret X (fun r' h => nomatch h) hr rfl dL_cluster_16
      exact KH H1 locs1 hP1 hS1 ls1 hl1
  rw [lg_entry_eq]
  exact K s.heap [] hP va_S.rf _ (lv_entry _ (Nat.le_of_ble_eq_true rfl))
