-- the class's cluster: it answers, or it throws
def xN : String := "java/util/NoSuchElementException"
def xns : List String := ["java/lang/RuntimeException", "java/lang/Exception"]
def xB : List Cond := [.declares (Bundle.init0 "java/lang/RuntimeException"), .declares (Bundle.init0 "java/lang/Exception"), .declares (Bundle.init0 "java/lang/Throwable"), .castable xN xN]
/-- what a throw asks beside the tables' good words -/
def ax_Z (bs : Nat) (U : State) : Prop := vx_Zq Bundle.tN "UNASSIGNED_STACK" Bundle.steD (ax_A bs) U U.heap ∧ vx_Zq Bundle.tN "SUPPRESSED_SENTINEL" Bundle.listD (ax_A bs) U U.heap ∧ va_Nw (.declares (Bundle.init0 "java/lang/RuntimeException")) U ∧ va_Nw (.declares (Bundle.init0 "java/lang/Exception")) U ∧ va_Nw (.declares (Bundle.init0 "java/lang/Throwable")) U ∧ va_Nw (.castable xN xN) U
theorem ax_Z.calling {bs : Nat} {U : State} {g : JFrame} {mk : MethodId} {a : Array Value} (h : ax_Z bs U) : ax_Z bs (U.calling g mk a) :=
  ⟨vx_Zq.moved (u := U) (U := U.calling g mk a) (Vm.Alike.refl U.vm) h.1, vx_Zq.moved (u := U) (U := U.calling g mk a) (Vm.Alike.refl U.vm) h.2.1, va_Nw.same (u := U) (U := U.calling g mk a) rfl rfl h.2.2.1, va_Nw.same (u := U) (U := U.calling g mk a) rfl rfl h.2.2.2.1, va_Nw.same (u := U) (U := U.calling g mk a) rfl rfl h.2.2.2.2.1, va_Nw.same (u := U) (U := U.calling g mk a) rfl rfl h.2.2.2.2.2⟩
theorem ax_Z.warm {bs : Nat} {s U : State} {H : Heap} {locs : List Loc} (h : ax_Z bs s) (hS : va_S (ax_A bs) s.heap H locs) (hU : U.heap = H) (hW : s.WarmedH U.vm) : ax_Z bs U :=
  ⟨vx_Zq.moved hW.alike (h.1.kept (fun a h1 h2 => by rw [hU]; exact hS.2.1 a h1 h2)), vx_Zq.moved hW.alike (h.2.1.kept (fun a h1 h2 => by rw [hU]; exact hS.2.1 a h1 h2)), va_Nw.warmD hW h.2.2.1, va_Nw.warmD hW h.2.2.2.1, va_Nw.warmD hW h.2.2.2.2.1, va_Nw.warmC hW h.2.2.2.2.2⟩
set_option maxRecDepth 100000 in
theorem xw_at0 : vx_at0 RX11 159 xN xns = ([151, 1444, 1453, 1455, 1458, 1460, 1445, 1446, 161, 162, 1447, 1452, 1456, 1472, 1434, 1473, 1436, 1474, 1438, 1448, 1450, 1440, 1462, 1463, 1464, 1465, 1425, 1465, 1466, 1467, 1468, 1427, 1468, 1469, 1470, 1445, 1429, 1461, 1423, 1424, 1431, 1432, 1433, 1435, 1437, 1439, 1443, 1442, 1441] : List Nat).filterMap (fun i => lw_tbl[i]?) := by decide +kernel
set_option maxRecDepth 100000 in
theorem xw_bad : (vx_at0 RX11 159 xN xns).filter (fun w => !goodWord w) = xB := by decide +kernel
theorem xw_mem {w : Cond} (h : w ∈ vx_at0 RX11 159 xN xns) : w ∈ lw_tbl := by
  rw [xw_at0] at h
  obtain ⟨i, -, hi⟩ := List.mem_filterMap.mp h
  exact List.mem_of_getElem? hi
theorem xw_all {args : Array Value} {s : State} {bs : Nat} (hts : ∀ w ∈ ax_T, w.before args s = true) (hZ : ax_Z bs s) : ∀ w ∈ vx_at0 RX11 159 xN xns, w.before args s = true :=
  vx_hat (B := xB) (fun w hw => hts w (ax_in (xw_mem (List.mem_filter.mp hw).1) (List.mem_filter.mp hw).2)) (fun w hw => by rw [xw_bad] at hw; exact hw) (vx_c (va_Nw.use rfl hZ.2.2.1) (vx_c (va_Nw.use rfl hZ.2.2.2.1) (vx_c (va_Nw.use rfl hZ.2.2.2.2.1) (vx_c (va_Nw.use rfl hZ.2.2.2.2.2) vx_n))))
set_option maxRecDepth 100000 in
theorem xw_ot0 : (Cond.classLink RX11 157 xN :: Cond.initialized xN :: vx_at0 RX11 159 xN xns).all vx_ot = true := by decide +kernel
theorem xw_ot : ∀ w ∈ Cond.classLink RX11 157 xN :: Cond.initialized xN :: vx_at0 RX11 159 xN xns, vx_ot w = true := fun w hw => List.all_eq_true.mp xw_ot0 w hw
theorem xw_new : Cond.classLink RX11 157 xN ∈ ax_T := ax_at 1422 (by decide +kernel) rfl
theorem xw_ini : Cond.initialized xN ∈ ax_T := ax_at 154 (by decide +kernel) rfl
/-- the cluster's ends: o is its answer, none where it throws -/
def XQ (D : va_G) (cA : Nat → ClassId) (ad : Nat → Nat) (bs : Nat) (σ : Nat → Nat → Int) (o : Option Int) : Array Value → State → Outcome → State → Prop := fun _ st oc t => ∃ r : Int, o = some r ∧ Z_I r ∧ oc = .returned (some (z_i r)) ∧ ax_P D cA ad bs 788 SHp σ t.heap ∧ va_F (ax_A bs) st t
def XX (D : va_G) (cA : Nat → ClassId) (ad : Nat → Nat) (bs : Nat) (σ : Nat → Nat → Int) (o : Option Int) : String → State → State → Prop := fun E st t => o = none ∧ E = xN ∧ ax_P D cA ad bs 788 SHp σ t.heap ∧ va_F (ax_A bs) st t
def XM (l : Launch) (D : va_G) (cA : Nat → ClassId) (sa ad : Nat → Nat) (bs : Nat) (v1 v2 : Int) (σ : Nat → Nat → Int) (o : Option Int) : Prop :=
  vx_Met l yX11_cluster (Cond.code yX11_cluster cX11_cluster 3 (some .int) :: ax_T) (ax_rm 8 1 6) (va_Pc [.ref (ad 0), z_i v1, z_i v2] (fun U => ax_P D cA ad bs 788 SHp σ U.heap ∧ ax_F D cA sa bs U ∧ ax_Z bs U)) (XQ D cA ad bs σ o) (XX D cA ad bs σ o) 1 6 (ax_A bs)
section S_XC
variable {p : Program} {l : Launch} {e : Env} {R : Room} {s : State} {m : MethodId} {args : Array Value} {below : List Frame} {meth : Method} {c : Code} {D : va_G} {cA : Nat → ClassId} {sa ad : Nat → Nat} {bs kc ks : Nat} {Q : State → Prop} {cc : ByteArray} {nL pc : Nat} {own : String} {lv : List (Nat × Value)} {st st0 : List Value} {σ : Nat → Nat → Int} {o : Option Int} {v1 v2 : Int}
theorem X_throw (X : AX p s m args meth c D cA sa bs cX11_cluster 3 RX11) (hl : l.stackTraces = false) (hZ : ax_Z bs s) (ht : ∀ x ∈ c.exceptionTable.toList, False) (ho : o = none) : AW p l e (ax_rm 8 1 6) s m args below meth c D cA ad bs 788 SHp 0 0 (vx_MQ below (XQ D cA ad bs σ o) (XX D cA ad bs σ o) args s 1 6 (ax_A bs)) 3 21 lv [] σ :=
  fun H locs hP hS ls hl' => vx_throw0 (A := ax_A bs) (own := RX11) (cls := xN) (names := xns) X.1 X.2.1 hl X.2.2.2.1 (by decide +kernel) (by decide +kernel) (X.2.2.2.2.1 _ xw_new) (X.2.2.2.2.1 _ xw_ini) (xw_all X.2.2.2.2.1 hZ) xw_ot hZ.1 hZ.2.1 hS (hl'.1.trans X.2.2.1.symm) dX11_cluster_21 dX11_cluster_24 dX11_cluster_25 dX11_cluster_28 (fun x hx => (ht x hx).elim) (Nat.le_of_ble_eq_true rfl) (Nat.le_of_ble_eq_true rfl) (Nat.le_of_ble_eq_true rfl) (Nat.le_of_ble_eq_true rfl) X.2.2.2.2.2.2
    (fun t hvm h1 h2 => ⟨ho, rfl, ⟨hP.1.kept (fun k q hk => h2 q.1 (vx_lt hP.1 hk)), hP.2⟩, Nat.le_trans hS.1 h1, fun q h3 h4 => (h2 q (Nat.lt_of_lt_of_le h3 hS.1)).trans (hS.2.1 q h3 h4)⟩) hS.2.2 (Nat.le_of_ble_eq_true rfl) (Nat.le_of_ble_eq_true rfl)
theorem X_ret (X : AX p s m args meth c D cA sa bs cX11_cluster 3 RX11) (hr : meth.sig.returnType = some .int) {r : Int} (ho : o = some r) (cr : Z_I r) : AW p l e (ax_rm 8 1 6) s m args below meth c D cA ad bs 788 SHp 0 0 (vx_MQ below (XQ D cA ad bs σ o) (XX D cA ad bs σ o) args s 1 6 (ax_A bs)) 3 52 lv [z_i r] σ :=
  fun H locs hP hS ls hl => vx_ret (W.widen (k := 1) (n := 6) (Nat.zero_le _) (Nat.zero_le _) (W.iret X.1 X.2.1 hr (fun t ht _ => ⟨r, ho, cr, rfl, by rw [ht]; exact hP, hS.F ht⟩) hS.2.2 dX11_cluster_52 X.2.2.2.2.2.2))
end S_XC
theorem C_X11_cluster (l : Launch) (hfl : l.stackTraces = false) (D : va_G) (cA : Nat → ClassId) (sa ad : Nat → Nat) (bs : Nat) (v1 : Int) (c_v1 : Z_I v1) (v2 : Int) (c_v2 : Z_I v2) (σ : Nat → Nat → Int) (o : Option Int) (hf : f_cl v1 v2 σ = some o) : XM l D cA sa ad bs v1 v2 σ o := by
  refine vx_ofW (cc := cX11_cluster) (maxL := 3) (ret := some .int) (by decide +kernel) rfl ?_
  intro p e s m args below meth c s₁ B hml ht hv
  obtain ⟨rfl, hP, hF, hZ⟩ := hv
  have hts := atoms_spec (ws := Cond.code yX11_cluster cX11_cluster 3 (some .int) :: ax_T) B.pre
  have X : AX p s m (#[.ref (ad 0), z_i v1, z_i v2] : Array Value) meth c D cA sa bs cX11_cluster 3 RX11 := ⟨B.exec, B.bytes, hml, findClass_of_methodNamed B.named, fun w hw => hts w (List.mem_cons_of_mem _ hw), hF, B.notSynchronized⟩
  have hr := B.returns
  have K : AW p l e (ax_rm 8 1 6) s m (#[.ref (ad 0), z_i v1, z_i v2] : Array Value) below meth c D cA ad bs 788 SHp 0 0 (vx_MQ below (XQ D cA ad bs σ o) (XX D cA ad bs σ o) (#[.ref (ad 0), z_i v1, z_i v2] : Array Value) s 1 6 (ax_A bs)) 3 0 [(0, .ref (ad 0)), (1, z_i v1), (2, z_i v2)] [] σ := by
    unfold f_cl at hf
    refine aw_aload_n X 0 dX11_cluster_0 rfl rfl ?_
    obtain ⟨g1, hf⟩ := z_gd hf
    refine aw_getV X s_0 fX11_24 rfl dX11_cluster_1 ?_
    refine aw_iload_n X 1 dX11_cluster_4 rfl rfl ?_
    obtain ⟨q2, e3, hf⟩ := z_bd hf
    refine aw_callV X [z_i v1] [] [z_i q2] cX11_153 (sX1_0 ((σ 0 2).toNat) g1) ciX1 (C_X1_hasCluster l D cA sa ad bs ((σ 0 2).toNat) g1 v1 c_v1 σ q2 e3) rfl ⟨(Nat.le_of_ble_eq_true rfl), (Nat.le_of_ble_eq_true rfl), (Nat.le_of_ble_eq_true rfl), (Nat.le_of_ble_eq_true rfl)⟩ rfl (Nat.le_of_ble_eq_true rfl) rfl dX11_cluster_5 (fun p4 => ?_)
    refine aw_if_eq X (tgt := 21) (z_zI p4) dX11_cluster_8 (by decide) (fun h5 => ?_) (fun h5 => ?_)
    · rw [if_pos h5] at hf
      exact X_throw X hfl hZ ht (Option.some.inj hf).symm
    · rw [if_neg h5] at hf
      refine aw_iload_n X 2 dX11_cluster_11 rfl rfl ?_
      refine aw_if_lt X (tgt := 21) c_v2 dX11_cluster_12 (by decide) (fun h6 => ?_) (fun h6 => ?_)
      · rw [if_pos h6] at hf
        exact X_throw X hfl hZ ht (Option.some.inj hf).symm
      · rw [if_neg h6] at hf
        refine aw_iload_n X 2 dX11_cluster_15 rfl rfl ?_
        refine aw_bipush X dX11_cluster_16 (by decide) ?_
        refine aw_icmp_le X (tgt := 29) c_v2 (z_lit (x := 10) (by decide)) dX11_cluster_18 (by decide) (fun h7 => ?_) (fun h7 => ?_)
        · rw [if_pos h7] at hf
          refine aw_iload_n X 2 dX11_cluster_29 rfl rfl ?_
          refine aw_iconst X dX11_cluster_30 ?_
          refine aw_icmp_gt X (tgt := 46) c_v2 (z_lit (x := 3) (by decide)) dX11_cluster_31 (by decide) (fun h8 => ?_) (fun h8 => ?_)
          · rw [if_neg (show ¬ v2 ≤ 3 by omega)] at hf
            obtain ⟨q3, e4, hf⟩ := z_bd hf
            refine aw_aload_n X 0 dX11_cluster_46 rfl rfl ?_
            refine aw_iload_n X 1 dX11_cluster_47 rfl rfl ?_
            refine aw_iload_n X 2 dX11_cluster_48 rfl rfl ?_
            refine aw_callV X [z_i v1, z_i v2] [] [z_i q3] cX11_164 s_0 ⟨_, _, rfl⟩ (C_X11_clusterNow l D cA sa ad bs v1 c_v1 v2 c_v2 σ q3 e4) rfl ⟨(Nat.le_of_ble_eq_true rfl), (Nat.le_of_ble_eq_true rfl), (Nat.le_of_ble_eq_true rfl), (Nat.le_of_ble_eq_true rfl)⟩ rfl (Nat.le_of_ble_eq_true rfl) rfl dX11_cluster_49 (fun p5 => ?_)
            exact X_ret X hr (Option.some.inj hf).symm p5
          · rw [if_pos (show v2 ≤ 3 by omega)] at hf
            obtain ⟨g2, hf⟩ := z_gd hf
            obtain ⟨q3, e4, hf⟩ := z_bd hf
            refine aw_aload_n X 0 dX11_cluster_34 rfl rfl ?_
            refine aw_getV X s_0 fX11_24 rfl dX11_cluster_35 ?_
            refine aw_iload_n X 1 dX11_cluster_38 rfl rfl ?_
            refine aw_iload_n X 2 dX11_cluster_39 rfl rfl ?_
            refine aw_callV X [z_i v1, z_i v2] [] [z_i q3] cX11_160 (sX1_0 ((σ 0 2).toNat) g2) ciX1 (C_X1_clusterFact l D cA sa ad bs ((σ 0 2).toNat) g2 v1 c_v1 v2 c_v2 σ q3 e4) rfl ⟨(Nat.le_of_ble_eq_true rfl), (Nat.le_of_ble_eq_true rfl), (Nat.le_of_ble_eq_true rfl), (Nat.le_of_ble_eq_true rfl)⟩ rfl (Nat.le_of_ble_eq_true rfl) rfl dX11_cluster_40 (fun p5 => ?_)
            exact aw_goto X (tgt := 52) dX11_cluster_43 (by decide) (X_ret X hr (Option.some.inj hf).symm p5)
        · rw [if_neg h7] at hf
          exact X_throw X hfl hZ ht (Option.some.inj hf).symm
  rw [lg_entry_eq]
  exact K s.heap [] hP va_S.rf _ (lv_entry _ (Nat.le_of_ble_eq_true rfl))
