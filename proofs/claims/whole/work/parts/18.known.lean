-- which word a packed name is: the class's way and the reference's
/-- the first k letters of text i, packed -/
def pkw (i : Nat) : Nat → Int
  | 0 => 0
  | k + 1 => z_orL (z_shlL (pkw i k) 8) (tx i k)
theorem pkw_in (i : Nat) : ∀ k, Z_L (pkw i k)
  | 0 => z_litL (x := 0) (by decide)
  | _ + 1 => z_orL_in _ _
theorem pkw_all : ∀ i, i < 16 → pkw i (ax_tl.getD i 0) = z_words.getD i 0 := by decide +kernel
theorem z_wk {k : Nat} (h : k < 2147483647) : z_w ((k : Int) + 1) = ((k + 1 : Nat) : Int) := by
  rw [z_w_id (by unfold Z_I; omega)]
  omega
theorem z_nat {k : Nat} (h : k < 2147483648) : Z_I (k : Int) := by unfold Z_I; omega
section S_packed
variable {p : Program} {l : Launch} {e : Env} {s : State} {m : MethodId} {args : Array Value} {below : List Frame} {meth : Method} {c : Code} {D : va_G} {cA : Nat → ClassId} {sa ad : Nat → Nat} {bs n : Nat} {sh : Nat → ax_S} {σ : Nat → Nat → Int}
set_option maxHeartbeats 4000000 in
set_option maxRecDepth 100000 in
theorem A_packed (X : AX p s m args meth c D cA sa bs cX10_packed 4 RX10) (hr : meth.sig.returnType = some .long) (i : Nat) (hi : i < 17) : ∀ (r k : Nat), k + r = ax_tl.getD i 0 → AW p l e (ax_rm 4 0 0) s m args below meth c D cA ad bs n sh 0 0 (ax_MQ below args s D cA ad bs n sh 0 0 (some (z_v (pkw i (ax_tl.getD i 0)))) True σ) 4 4 [(0, .ref (sa (4 + i))), (1, z_v (pkw i k)), (3, z_i (k : Int))] [] σ := by
  intro r
  have hlen := tl_all i hi
  induction r with
  | zero =>
    intro k hk
    refine aw_iload_n X 2 dX10_packed_4 rfl rfl ?_
    refine aw_aload_n X 0 dX10_packed_5 rfl rfl ?_
    refine aw_callT X [] [z_i (k : Int)] [z_i ((ax_tl.getD i 0 : Nat) : Int), z_i (k : Int)] q_x179 hi rfl (C_length l D cA sa ad bs n sh i hi σ) rfl ⟨(Nat.le_of_ble_eq_true rfl), (Nat.le_of_ble_eq_true rfl), (Nat.le_of_ble_eq_true rfl), (Nat.le_of_ble_eq_true rfl)⟩ rfl (Nat.le_of_ble_eq_true rfl) rfl dX10_packed_6 (fun _ => ?_)
    refine aw_icmp_ge X (tgt := 30) (z_nat (by omega)) (z_nat (by omega)) dX10_packed_9 (by decide) (fun h => ?_) (fun h => absurd (by omega) h)
    refine aw_lload_n X 1 dX10_packed_30 rfl rfl ?_
    rw [show ax_tl.getD i 0 = k from by omega]
    exact aw_lret X trivial hr rfl dX10_packed_31
  | succ r ih =>
    intro k hk
    refine aw_iload_n X 2 dX10_packed_4 rfl rfl ?_
    refine aw_aload_n X 0 dX10_packed_5 rfl rfl ?_
    refine aw_callT X [] [z_i (k : Int)] [z_i ((ax_tl.getD i 0 : Nat) : Int), z_i (k : Int)] q_x179 hi rfl (C_length l D cA sa ad bs n sh i hi σ) rfl ⟨(Nat.le_of_ble_eq_true rfl), (Nat.le_of_ble_eq_true rfl), (Nat.le_of_ble_eq_true rfl), (Nat.le_of_ble_eq_true rfl)⟩ rfl (Nat.le_of_ble_eq_true rfl) rfl dX10_packed_6 (fun _ => ?_)
    refine aw_icmp_ge X (tgt := 30) (z_nat (by omega)) (z_nat (by omega)) dX10_packed_9 (by decide) (fun h => absurd h (by omega)) (fun h => ?_)
    refine aw_lload_n X 1 dX10_packed_12 rfl rfl ?_
    refine aw_bipush X dX10_packed_13 (by decide) ?_
    refine aw_lshl X dX10_packed_15 ?_
    refine aw_aload_n X 0 dX10_packed_16 rfl rfl ?_
    refine aw_iload_n X 2 dX10_packed_17 rfl rfl ?_
    refine aw_callT X [z_i (k : Int)] [z_v (z_shlL (pkw i k) 8)] [z_i (tx i k), z_v (z_shlL (pkw i k) 8)] q_x183 hi rfl (C_charAt l D cA sa ad bs n sh i k hi (by omega) σ) rfl ⟨(Nat.le_of_ble_eq_true rfl), (Nat.le_of_ble_eq_true rfl), (Nat.le_of_ble_eq_true rfl), (Nat.le_of_ble_eq_true rfl)⟩ rfl (Nat.le_of_ble_eq_true rfl) rfl dX10_packed_18 (fun _ => ?_)
    obtain ⟨t1, t2, -, -, -⟩ := tx_all i hi k (by omega)
    refine aw_i2l X (by unfold Z_I; omega) dX10_packed_21 ?_
    refine aw_lor X dX10_packed_22 ?_
    refine aw_lstore_n X [(1, z_v (z_orL (z_shlL (pkw i k) 8) (tx i k))), (0, .ref (sa (4 + i))), (3, z_i (k : Int))] dX10_packed_23 rfl (by decide) rfl ?_
    refine aw_iinc X 2 [(3, z_i (z_w ((k : Int) + 1))), (1, z_v (z_orL (z_shlL (pkw i k) 8) (tx i k))), (0, .ref (sa (4 + i)))] dX10_packed_24 rfl (by decide) rfl ?_
    refine aw_goto X (tgt := 4) dX10_packed_27 (by decide) ?_
    refine aw_sub [2, 1, 0] rfl ?_
    rw [z_wk (by omega)]
    exact ih (k + 1) (by omega)
end S_packed
set_option maxHeartbeats 4000000 in
set_option maxRecDepth 100000 in
theorem C_packed (l : Launch) (D : va_G) (cA : Nat → ClassId) (sa ad : Nat → Nat) (bs n : Nat) (sh : Nat → ax_S) (i : Nat) (hi : i < 17) (σ : Nat → Nat → Int) : AM l D cA sa ad bs n sh yX10_packed cX10_packed 4 (some .long) 4 [.ref (sa (4 + i))] σ (some (z_v (pkw i (ax_tl.getD i 0)))) True σ := by
  refine am_of (by decide +kernel) (Nat.le_of_ble_eq_true rfl) (fun p e s m args below meth c X hr => ?_)
  refine aw_lv (lv' := [(0, .ref (sa (4 + i)))]) rfl ?_
  refine aw_lconst X (x := 0) dX10_packed_0 (by decide) ?_
  refine aw_lstore_n X [(1, z_v 0), (0, .ref (sa (4 + i)))] dX10_packed_1 rfl (by decide) rfl ?_
  refine aw_iconst X dX10_packed_2 ?_
  refine aw_istore_n X [(3, z_i 0), (1, z_v 0), (0, .ref (sa (4 + i)))] dX10_packed_3 rfl (by decide) rfl ?_
  refine aw_sub [2, 1, 0] rfl ?_
  exact A_packed X hr i hi _ 0 (Nat.zero_add _)
set_option maxHeartbeats 4000000 in
set_option maxRecDepth 100000 in
theorem C_wordText_0 (l : Launch) (D : va_G) (cA : Nat → ClassId) (sa ad : Nat → Nat) (bs n : Nat) (sh : Nat → ax_S) (σ : Nat → Nat → Int) : AM l D cA sa ad bs n sh yX10_wordText cX10_wordText 1 (some (.object "java/lang/String")) 0 [z_i 0] σ (some (.ref (sa (4 + 0)))) True σ := by
  refine am_of (by decide +kernel) (Nat.le_of_ble_eq_true rfl) (fun p e s m args below meth c X hr => ?_)
  refine aw_lv (lv' := [(0, z_i 0)]) rfl ?_
  refine aw_iload_n X 0 dX10_wordText_0 rfl rfl ?_
  refine aw_tabIn X (x := 0) (tgt := 76) (z_lit (x := 0) (by decide)) dX10_wordText_1 (by decide) (by decide) rfl (by decide) ?_
  refine aw_ldcS X (i := 0) (tx0 := "cluster") (by decide) dX10_wordText_76 ?_
  exact aw_sret X trivial hr rfl dX10_wordText_78
set_option maxHeartbeats 4000000 in
set_option maxRecDepth 100000 in
theorem C_wordText_1 (l : Launch) (D : va_G) (cA : Nat → ClassId) (sa ad : Nat → Nat) (bs n : Nat) (sh : Nat → ax_S) (σ : Nat → Nat → Int) : AM l D cA sa ad bs n sh yX10_wordText cX10_wordText 1 (some (.object "java/lang/String")) 0 [z_i 1] σ (some (.ref (sa (4 + 1)))) True σ := by
  refine am_of (by decide +kernel) (Nat.le_of_ble_eq_true rfl) (fun p e s m args below meth c X hr => ?_)
  refine aw_lv (lv' := [(0, z_i 1)]) rfl ?_
  refine aw_iload_n X 0 dX10_wordText_0 rfl rfl ?_
  refine aw_tabIn X (x := 1) (tgt := 79) (z_lit (x := 1) (by decide)) dX10_wordText_1 (by decide) (by decide) rfl (by decide) ?_
  refine aw_ldcS X (i := 1) (tx0 := "point") (by decide) dX10_wordText_79 ?_
  exact aw_sret X trivial hr rfl dX10_wordText_81
set_option maxHeartbeats 4000000 in
set_option maxRecDepth 100000 in
theorem C_wordText_2 (l : Launch) (D : va_G) (cA : Nat → ClassId) (sa ad : Nat → Nat) (bs n : Nat) (sh : Nat → ax_S) (σ : Nat → Nat → Int) : AM l D cA sa ad bs n sh yX10_wordText cX10_wordText 1 (some (.object "java/lang/String")) 0 [z_i 2] σ (some (.ref (sa (4 + 2)))) True σ := by
  refine am_of (by decide +kernel) (Nat.le_of_ble_eq_true rfl) (fun p e s m args below meth c X hr => ?_)
  refine aw_lv (lv' := [(0, z_i 2)]) rfl ?_
  refine aw_iload_n X 0 dX10_wordText_0 rfl rfl ?_
  refine aw_tabIn X (x := 2) (tgt := 82) (z_lit (x := 2) (by decide)) dX10_wordText_1 (by decide) (by decide) rfl (by decide) ?_
  refine aw_ldcS X (i := 2) (tx0 := "task") (by decide) dX10_wordText_82 ?_
  exact aw_sret X trivial hr rfl dX10_wordText_84
set_option maxHeartbeats 4000000 in
set_option maxRecDepth 100000 in
theorem C_wordText_3 (l : Launch) (D : va_G) (cA : Nat → ClassId) (sa ad : Nat → Nat) (bs n : Nat) (sh : Nat → ax_S) (σ : Nat → Nat → Int) : AM l D cA sa ad bs n sh yX10_wordText cX10_wordText 1 (some (.object "java/lang/String")) 0 [z_i 3] σ (some (.ref (sa (4 + 3)))) True σ := by
  refine am_of (by decide +kernel) (Nat.le_of_ble_eq_true rfl) (fun p e s m args below meth c X hr => ?_)
  refine aw_lv (lv' := [(0, z_i 3)]) rfl ?_
  refine aw_iload_n X 0 dX10_wordText_0 rfl rfl ?_
  refine aw_tabIn X (x := 3) (tgt := 85) (z_lit (x := 3) (by decide)) dX10_wordText_1 (by decide) (by decide) rfl (by decide) ?_
  refine aw_ldcS X (i := 3) (tx0 := "margin") (by decide) dX10_wordText_85 ?_
  exact aw_sret X trivial hr rfl dX10_wordText_87
set_option maxHeartbeats 4000000 in
set_option maxRecDepth 100000 in
theorem C_wordText_4 (l : Launch) (D : va_G) (cA : Nat → ClassId) (sa ad : Nat → Nat) (bs n : Nat) (sh : Nat → ax_S) (σ : Nat → Nat → Int) : AM l D cA sa ad bs n sh yX10_wordText cX10_wordText 1 (some (.object "java/lang/String")) 0 [z_i 4] σ (some (.ref (sa (4 + 4)))) True σ := by
  refine am_of (by decide +kernel) (Nat.le_of_ble_eq_true rfl) (fun p e s m args below meth c X hr => ?_)
  refine aw_lv (lv' := [(0, z_i 4)]) rfl ?_
  refine aw_iload_n X 0 dX10_wordText_0 rfl rfl ?_
  refine aw_tabIn X (x := 4) (tgt := 88) (z_lit (x := 4) (by decide)) dX10_wordText_1 (by decide) (by decide) rfl (by decide) ?_
  refine aw_ldcS X (i := 4) (tx0 := "hold") (by decide) dX10_wordText_88 ?_
  exact aw_sret X trivial hr rfl dX10_wordText_90
set_option maxHeartbeats 4000000 in
set_option maxRecDepth 100000 in
theorem C_wordText_5 (l : Launch) (D : va_G) (cA : Nat → ClassId) (sa ad : Nat → Nat) (bs n : Nat) (sh : Nat → ax_S) (σ : Nat → Nat → Int) : AM l D cA sa ad bs n sh yX10_wordText cX10_wordText 1 (some (.object "java/lang/String")) 0 [z_i 5] σ (some (.ref (sa (4 + 5)))) True σ := by
  refine am_of (by decide +kernel) (Nat.le_of_ble_eq_true rfl) (fun p e s m args below meth c X hr => ?_)
  refine aw_lv (lv' := [(0, z_i 5)]) rfl ?_
  refine aw_iload_n X 0 dX10_wordText_0 rfl rfl ?_
  refine aw_tabIn X (x := 5) (tgt := 91) (z_lit (x := 5) (by decide)) dX10_wordText_1 (by decide) (by decide) rfl (by decide) ?_
  refine aw_ldcS X (i := 5) (tx0 := "sleep") (by decide) dX10_wordText_91 ?_
  exact aw_sret X trivial hr rfl dX10_wordText_93
set_option maxHeartbeats 4000000 in
set_option maxRecDepth 100000 in
theorem C_wordText_6 (l : Launch) (D : va_G) (cA : Nat → ClassId) (sa ad : Nat → Nat) (bs n : Nat) (sh : Nat → ax_S) (σ : Nat → Nat → Int) : AM l D cA sa ad bs n sh yX10_wordText cX10_wordText 1 (some (.object "java/lang/String")) 0 [z_i 6] σ (some (.ref (sa (4 + 6)))) True σ := by
  refine am_of (by decide +kernel) (Nat.le_of_ble_eq_true rfl) (fun p e s m args below meth c X hr => ?_)
  refine aw_lv (lv' := [(0, z_i 6)]) rfl ?_
  refine aw_iload_n X 0 dX10_wordText_0 rfl rfl ?_
  refine aw_tabIn X (x := 6) (tgt := 94) (z_lit (x := 6) (by decide)) dX10_wordText_1 (by decide) (by decide) rfl (by decide) ?_
  refine aw_ldcS X (i := 6) (tx0 := "boost") (by decide) dX10_wordText_94 ?_
  exact aw_sret X trivial hr rfl dX10_wordText_96
set_option maxHeartbeats 4000000 in
set_option maxRecDepth 100000 in
theorem C_wordText_7 (l : Launch) (D : va_G) (cA : Nat → ClassId) (sa ad : Nat → Nat) (bs n : Nat) (sh : Nat → ax_S) (σ : Nat → Nat → Int) : AM l D cA sa ad bs n sh yX10_wordText cX10_wordText 1 (some (.object "java/lang/String")) 0 [z_i 7] σ (some (.ref (sa (4 + 7)))) True σ := by
  refine am_of (by decide +kernel) (Nat.le_of_ble_eq_true rfl) (fun p e s m args below meth c X hr => ?_)
  refine aw_lv (lv' := [(0, z_i 7)]) rfl ?_
  refine aw_iload_n X 0 dX10_wordText_0 rfl rfl ?_
  refine aw_tabIn X (x := 7) (tgt := 97) (z_lit (x := 7) (by decide)) dX10_wordText_1 (by decide) (by decide) rfl (by decide) ?_
  refine aw_ldcS X (i := 7) (tx0 := "limit") (by decide) dX10_wordText_97 ?_
  exact aw_sret X trivial hr rfl dX10_wordText_99
set_option maxHeartbeats 4000000 in
set_option maxRecDepth 100000 in
theorem C_wordText_8 (l : Launch) (D : va_G) (cA : Nat → ClassId) (sa ad : Nat → Nat) (bs n : Nat) (sh : Nat → ax_S) (σ : Nat → Nat → Int) : AM l D cA sa ad bs n sh yX10_wordText cX10_wordText 1 (some (.object "java/lang/String")) 0 [z_i 8] σ (some (.ref (sa (4 + 8)))) True σ := by
  refine am_of (by decide +kernel) (Nat.le_of_ble_eq_true rfl) (fun p e s m args below meth c X hr => ?_)
  refine aw_lv (lv' := [(0, z_i 8)]) rfl ?_
  refine aw_iload_n X 0 dX10_wordText_0 rfl rfl ?_
  refine aw_tabIn X (x := 8) (tgt := 100) (z_lit (x := 8) (by decide)) dX10_wordText_1 (by decide) (by decide) rfl (by decide) ?_
  refine aw_ldcS X (i := 8) (tx0 := "cool") (by decide) dX10_wordText_100 ?_
  exact aw_sret X trivial hr rfl dX10_wordText_102
set_option maxHeartbeats 4000000 in
set_option maxRecDepth 100000 in
theorem C_wordText_9 (l : Launch) (D : va_G) (cA : Nat → ClassId) (sa ad : Nat → Nat) (bs n : Nat) (sh : Nat → ax_S) (σ : Nat → Nat → Int) : AM l D cA sa ad bs n sh yX10_wordText cX10_wordText 1 (some (.object "java/lang/String")) 0 [z_i 9] σ (some (.ref (sa (4 + 9)))) True σ := by
  refine am_of (by decide +kernel) (Nat.le_of_ble_eq_true rfl) (fun p e s m args below meth c X hr => ?_)
  refine aw_lv (lv' := [(0, z_i 9)]) rfl ?_
  refine aw_iload_n X 0 dX10_wordText_0 rfl rfl ?_
  refine aw_tabIn X (x := 9) (tgt := 103) (z_lit (x := 9) (by decide)) dX10_wordText_1 (by decide) (by decide) rfl (by decide) ?_
  refine aw_ldcS X (i := 9) (tx0 := "tick") (by decide) dX10_wordText_103 ?_
  exact aw_sret X trivial hr rfl dX10_wordText_105
set_option maxHeartbeats 4000000 in
set_option maxRecDepth 100000 in
theorem C_wordText_10 (l : Launch) (D : va_G) (cA : Nat → ClassId) (sa ad : Nat → Nat) (bs n : Nat) (sh : Nat → ax_S) (σ : Nat → Nat → Int) : AM l D cA sa ad bs n sh yX10_wordText cX10_wordText 1 (some (.object "java/lang/String")) 0 [z_i 10] σ (some (.ref (sa (4 + 10)))) True σ := by
  refine am_of (by decide +kernel) (Nat.le_of_ble_eq_true rfl) (fun p e s m args below meth c X hr => ?_)
  refine aw_lv (lv' := [(0, z_i 10)]) rfl ?_
  refine aw_iload_n X 0 dX10_wordText_0 rfl rfl ?_
  refine aw_tabIn X (x := 10) (tgt := 106) (z_lit (x := 10) (by decide)) dX10_wordText_1 (by decide) (by decide) rfl (by decide) ?_
  refine aw_ldcS X (i := 10) (tx0 := "move") (by decide) dX10_wordText_106 ?_
  exact aw_sret X trivial hr rfl dX10_wordText_108
set_option maxHeartbeats 4000000 in
set_option maxRecDepth 100000 in
theorem C_wordText_11 (l : Launch) (D : va_G) (cA : Nat → ClassId) (sa ad : Nat → Nat) (bs n : Nat) (sh : Nat → ax_S) (σ : Nat → Nat → Int) : AM l D cA sa ad bs n sh yX10_wordText cX10_wordText 1 (some (.object "java/lang/String")) 0 [z_i 11] σ (some (.ref (sa (4 + 11)))) True σ := by
  refine am_of (by decide +kernel) (Nat.le_of_ble_eq_true rfl) (fun p e s m args below meth c X hr => ?_)
  refine aw_lv (lv' := [(0, z_i 11)]) rfl ?_
  refine aw_iload_n X 0 dX10_wordText_0 rfl rfl ?_
  refine aw_tabIn X (x := 11) (tgt := 109) (z_lit (x := 11) (by decide)) dX10_wordText_1 (by decide) (by decide) rfl (by decide) ?_
  refine aw_ldcS X (i := 11) (tx0 := "ask") (by decide) dX10_wordText_109 ?_
  exact aw_sret X trivial hr rfl dX10_wordText_111
set_option maxHeartbeats 4000000 in
set_option maxRecDepth 100000 in
theorem C_wordText_12 (l : Launch) (D : va_G) (cA : Nat → ClassId) (sa ad : Nat → Nat) (bs n : Nat) (sh : Nat → ax_S) (σ : Nat → Nat → Int) : AM l D cA sa ad bs n sh yX10_wordText cX10_wordText 1 (some (.object "java/lang/String")) 0 [z_i 12] σ (some (.ref (sa (4 + 12)))) True σ := by
  refine am_of (by decide +kernel) (Nat.le_of_ble_eq_true rfl) (fun p e s m args below meth c X hr => ?_)
  refine aw_lv (lv' := [(0, z_i 12)]) rfl ?_
  refine aw_iload_n X 0 dX10_wordText_0 rfl rfl ?_
  refine aw_tabIn X (x := 12) (tgt := 112) (z_lit (x := 12) (by decide)) dX10_wordText_1 (by decide) (by decide) rfl (by decide) ?_
  refine aw_ldcS X (i := 12) (tx0 := "drop") (by decide) dX10_wordText_112 ?_
  exact aw_sret X trivial hr rfl dX10_wordText_114
set_option maxHeartbeats 4000000 in
set_option maxRecDepth 100000 in
theorem C_wordText_13 (l : Launch) (D : va_G) (cA : Nat → ClassId) (sa ad : Nat → Nat) (bs n : Nat) (sh : Nat → ax_S) (σ : Nat → Nat → Int) : AM l D cA sa ad bs n sh yX10_wordText cX10_wordText 1 (some (.object "java/lang/String")) 0 [z_i 13] σ (some (.ref (sa (4 + 13)))) True σ := by
  refine am_of (by decide +kernel) (Nat.le_of_ble_eq_true rfl) (fun p e s m args below meth c X hr => ?_)
  refine aw_lv (lv' := [(0, z_i 13)]) rfl ?_
  refine aw_iload_n X 0 dX10_wordText_0 rfl rfl ?_
  refine aw_tabIn X (x := 13) (tgt := 115) (z_lit (x := 13) (by decide)) dX10_wordText_1 (by decide) (by decide) rfl (by decide) ?_
  refine aw_ldcS X (i := 13) (tx0 := "stop") (by decide) dX10_wordText_115 ?_
  exact aw_sret X trivial hr rfl dX10_wordText_117
set_option maxHeartbeats 4000000 in
set_option maxRecDepth 100000 in
theorem C_wordText_14 (l : Launch) (D : va_G) (cA : Nat → ClassId) (sa ad : Nat → Nat) (bs n : Nat) (sh : Nat → ax_S) (σ : Nat → Nat → Int) : AM l D cA sa ad bs n sh yX10_wordText cX10_wordText 1 (some (.object "java/lang/String")) 0 [z_i 14] σ (some (.ref (sa (4 + 14)))) True σ := by
  refine am_of (by decide +kernel) (Nat.le_of_ble_eq_true rfl) (fun p e s m args below meth c X hr => ?_)
  refine aw_lv (lv' := [(0, z_i 14)]) rfl ?_
  refine aw_iload_n X 0 dX10_wordText_0 rfl rfl ?_
  refine aw_tabIn X (x := 14) (tgt := 118) (z_lit (x := 14) (by decide)) dX10_wordText_1 (by decide) (by decide) rfl (by decide) ?_
  refine aw_ldcS X (i := 14) (tx0 := "start") (by decide) dX10_wordText_118 ?_
  exact aw_sret X trivial hr rfl dX10_wordText_120
set_option maxHeartbeats 4000000 in
set_option maxRecDepth 100000 in
theorem C_wordText_15 (l : Launch) (D : va_G) (cA : Nat → ClassId) (sa ad : Nat → Nat) (bs n : Nat) (sh : Nat → ax_S) (σ : Nat → Nat → Int) : AM l D cA sa ad bs n sh yX10_wordText cX10_wordText 1 (some (.object "java/lang/String")) 0 [z_i 15] σ (some (.ref (sa (4 + 15)))) True σ := by
  refine am_of (by decide +kernel) (Nat.le_of_ble_eq_true rfl) (fun p e s m args below meth c X hr => ?_)
  refine aw_lv (lv' := [(0, z_i 15)]) rfl ?_
  refine aw_iload_n X 0 dX10_wordText_0 rfl rfl ?_
  refine aw_tabOut X (x := 15) (tgt := 121) (z_lit (x := 15) (by decide)) dX10_wordText_1 (by decide) (by decide) ?_
  refine aw_ldcS X (i := 15) (tx0 := "settle") (by decide) dX10_wordText_121 ?_
  exact aw_sret X trivial hr rfl dX10_wordText_123
theorem C_wordText (l : Launch) (D : va_G) (cA : Nat → ClassId) (sa ad : Nat → Nat) (bs n : Nat) (sh : Nat → ax_S) (i : Nat) (hi : i < 16) (σ : Nat → Nat → Int) : AM l D cA sa ad bs n sh yX10_wordText cX10_wordText 1 (some (.object "java/lang/String")) 0 [z_i (i : Int)] σ (some (.ref (sa (4 + i)))) True σ := by
  have : i = 0 ∨ i = 1 ∨ i = 2 ∨ i = 3 ∨ i = 4 ∨ i = 5 ∨ i = 6 ∨ i = 7 ∨ i = 8 ∨ i = 9 ∨ i = 10 ∨ i = 11 ∨ i = 12 ∨ i = 13 ∨ i = 14 ∨ i = 15 := by omega
  rcases this with rfl | rfl | rfl | rfl | rfl | rfl | rfl | rfl | rfl | rfl | rfl | rfl | rfl | rfl | rfl | rfl
  · exact C_wordText_0 l D cA sa ad bs n sh σ
  · exact C_wordText_1 l D cA sa ad bs n sh σ
  · exact C_wordText_2 l D cA sa ad bs n sh σ
  · exact C_wordText_3 l D cA sa ad bs n sh σ
  · exact C_wordText_4 l D cA sa ad bs n sh σ
  · exact C_wordText_5 l D cA sa ad bs n sh σ
  · exact C_wordText_6 l D cA sa ad bs n sh σ
  · exact C_wordText_7 l D cA sa ad bs n sh σ
  · exact C_wordText_8 l D cA sa ad bs n sh σ
  · exact C_wordText_9 l D cA sa ad bs n sh σ
  · exact C_wordText_10 l D cA sa ad bs n sh σ
  · exact C_wordText_11 l D cA sa ad bs n sh σ
  · exact C_wordText_12 l D cA sa ad bs n sh σ
  · exact C_wordText_13 l D cA sa ad bs n sh σ
  · exact C_wordText_14 l D cA sa ad bs n sh σ
  · exact C_wordText_15 l D cA sa ad bs n sh σ
section S_wordNumber
variable {p : Program} {l : Launch} {e : Env} {s : State} {m : MethodId} {args : Array Value} {below : List Frame} {meth : Method} {c : Code} {D : va_G} {cA : Nat → ClassId} {sa ad : Nat → Nat} {bs n : Nat} {sh : Nat → ax_S} {σ : Nat → Nat → Int}
set_option maxHeartbeats 4000000 in
set_option maxRecDepth 100000 in
theorem A_wordNumber (X : AX p s m args meth c D cA sa bs cX10_wordNumber 3 RX10) (hr : meth.sig.returnType = some .int) (v : Int) (cv : Z_L v) : ∀ (r k : Nat), k + r = 16 → AW p l e (ax_rm 6 0 0) s m args below meth c D cA ad bs n sh 0 0 (ax_MQ below args s D cA ad bs n sh 0 0 (some (z_i (z_wno v r))) (Z_I (z_wno v r)) σ) 3 2 [(0, z_v v), (2, z_i (k : Int))] [] σ := by
  intro r
  induction r with
  | zero =>
    intro k hk
    obtain rfl : k = 16 := by omega
    refine aw_iload_n X 1 dX10_wordNumber_2 rfl rfl ?_
    refine aw_bipush X dX10_wordNumber_3 (by decide) ?_
    refine aw_icmp_ge X (tgt := 28) (z_nat (by omega)) (z_lit (x := 16) (by decide)) dX10_wordNumber_5 (by decide) (fun h => ?_) (fun h => absurd (by decide) h)
    refine aw_iconst X dX10_wordNumber_28 ?_
    exact aw_iret X (z_wno_in v 0) hr rfl dX10_wordNumber_29
  | succ r ih =>
    intro k hk
    refine aw_iload_n X 1 dX10_wordNumber_2 rfl rfl ?_
    refine aw_bipush X dX10_wordNumber_3 (by decide) ?_
    refine aw_icmp_ge X (tgt := 28) (z_nat (by omega)) (z_lit (x := 16) (by decide)) dX10_wordNumber_5 (by decide) (fun h => absurd h (by omega)) (fun h => ?_)
    refine aw_iload_n X 1 dX10_wordNumber_8 rfl rfl ?_
    refine aw_callS X [z_i (k : Int)] [] [.ref (sa (4 + k))] cX10_171 (C_wordText l D cA sa ad bs n sh k (by omega) σ) rfl ⟨(Nat.le_of_ble_eq_true rfl), (Nat.le_of_ble_eq_true rfl), (Nat.le_of_ble_eq_true rfl), (Nat.le_of_ble_eq_true rfl)⟩ rfl (Nat.le_of_ble_eq_true rfl) rfl dX10_wordNumber_9 (fun _ => ?_)
    refine aw_callS X [.ref (sa (4 + k))] [] [z_v (pkw k (ax_tl.getD k 0))] cX10_175 (C_packed l D cA sa ad bs n sh k (by omega) σ) rfl ⟨(Nat.le_of_ble_eq_true rfl), (Nat.le_of_ble_eq_true rfl), (Nat.le_of_ble_eq_true rfl), (Nat.le_of_ble_eq_true rfl)⟩ rfl (Nat.le_of_ble_eq_true rfl) rfl dX10_wordNumber_12 (fun _ => ?_)
    refine aw_lload_n X 0 dX10_wordNumber_15 rfl rfl ?_
    refine aw_lcmp X (pkw_in _ _) cv dX10_wordNumber_16 ?_
    have ew := pkw_all k (by omega)
    have ek : 15 - r = k := by omega
    refine aw_if_ne X (tgt := 22) (z_cmp_in _ _) dX10_wordNumber_17 (by decide) (fun h => ?_) (fun h => ?_)
    · have hne : ¬ z_words.getD (15 - r) 0 = v := by rw [ek, ← ew]; exact fun z => h (z_cmp_0.mpr z)
      rw [show z_wno v (r + 1) = z_wno v r from by show (if _ then _ else _) = _; rw [if_neg hne]]
      refine aw_iinc X 1 [(2, z_i (z_w ((k : Int) + 1))), (0, z_v v)] dX10_wordNumber_22 rfl (by decide) rfl ?_
      refine aw_goto X (tgt := 2) dX10_wordNumber_25 (by decide) ?_
      refine aw_sub [1, 0] rfl ?_
      rw [z_wk (by omega)]
      exact ih (k + 1) (by omega)
    · have he : z_words.getD (15 - r) 0 = v := by rw [ek, ← ew]; exact z_cmp_0.mp h
      rw [show z_wno v (r + 1) = (k : Int) from by show (if _ then _ else _) = _; rw [if_pos he, ek]]
      refine aw_iload_n X 1 dX10_wordNumber_20 rfl rfl ?_
      exact aw_iret X (z_nat (by omega)) hr rfl dX10_wordNumber_21
end S_wordNumber
/-- the letters of the reference's row of words read so far: the word begun, how many were whole -/
def kst : Nat → Int × Nat
  | 0 => (0, 0)
  | k + 1 => if tx 16 k = 32 then (0, (kst k).2 + 1) else (z_orL (z_shlL (kst k).1 8) (tx 16 k), (kst k).2)
def kst2 : Nat → Int × Nat → Nat → Bool
  | 0, st, _ => st.2 == 16
  | r + 1, st, k => (st.2 ≤ 16 : Bool) && (if tx 16 k = 32 then (st.1 == z_words.getD st.2 0) && ((st.2 < 16 : Bool) && kst2 r (0, st.2 + 1) (k + 1)) else kst2 r (z_orL (z_shlL st.1 8) (tx 16 k), st.2) (k + 1))
theorem kst2_ok : kst2 91 (0, 0) 0 = true := by decide +kernel
theorem kst_in (k : Nat) : Z_L (kst k).1 := by
  cases k with
  | zero => exact z_litL (x := 0) (by decide)
  | succ k =>
    unfold kst
    split
    · exact z_litL (x := 0) (by decide)
    · exact z_orL_in _ _
section S_known
variable {p : Program} {l : Launch} {e : Env} {s : State} {m : MethodId} {args : Array Value} {below : List Frame} {meth : Method} {c : Code} {D : va_G} {cA : Nat → ClassId} {sa ad : Nat → Nat} {bs n : Nat} {sh : Nat → ax_S} {σ : Nat → Nat → Int}
set_option maxHeartbeats 4000000 in
set_option maxRecDepth 100000 in
theorem A_known (X : AX p s m args meth c D cA sa bs cX12_known 6 RX12) (hr : meth.sig.returnType = some .int) (w : Int) (cw : Z_L w) : ∀ (r k : Nat) (st : Int × Nat), k + r = 91 → Z_L st.1 → kst2 r st k = true → AW p l e (ax_rm 6 0 0) s m args below meth c D cA ad bs n sh 0 0 (ax_MQ below args s D cA ad bs n sh 0 0 (some (z_i (z_wno w (16 - st.2)))) (Z_I (z_wno w (16 - st.2))) σ) 6 7 [(0, z_v w), (2, z_i (st.2 : Int)), (3, z_v st.1), (5, z_i (k : Int))] [] σ := by
  intro r
  induction r with
  | zero =>
    intro k st hk cst hs
    obtain rfl : k = 91 := by omega
    have h16 : st.2 = 16 := by unfold kst2 at hs; simpa using hs
    refine aw_iload X 3 dX12_known_7 rfl ?_
    refine aw_ldcS X (i := 16) (tx0 := "cluster point task margin hold sleep boost limit cool tick move ask drop stop start settle ") (by decide) dX12_known_9 ?_
    refine aw_callT X [] [z_i ((91 : Nat) : Int)] [z_i ((ax_tl.getD 16 0 : Nat) : Int), z_i ((91 : Nat) : Int)] q_x125 (by decide) rfl (C_length l D cA sa ad bs n sh 16 (by decide) σ) rfl ⟨(Nat.le_of_ble_eq_true rfl), (Nat.le_of_ble_eq_true rfl), (Nat.le_of_ble_eq_true rfl), (Nat.le_of_ble_eq_true rfl)⟩ rfl (Nat.le_of_ble_eq_true rfl) rfl dX12_known_11 (fun _ => ?_)
    refine aw_icmp_ge X (tgt := 65) (z_nat (by omega)) (z_lit (x := 91) (by decide)) dX12_known_14 (by decide) (fun h => ?_) (fun h => absurd (by decide) h)
    refine aw_iconst X dX12_known_65 ?_
    rw [h16]
    exact aw_iret X (z_wno_in w 0) hr rfl dX12_known_66
  | succ r ih =>
    intro k st hk cst hs
    have hk2 : k < ax_tl.getD 16 0 := by show k < 91; omega
    obtain ⟨t1, t2, -, -, -⟩ := tx_all 16 (by decide) k hk2
    have ct : Z_I (tx 16 k) := by unfold Z_I; omega
    unfold kst2 at hs
    rw [Bool.and_eq_true] at hs
    have hle : st.2 ≤ 16 := by simpa using hs.1
    have hs := hs.2
    refine aw_iload X 3 dX12_known_7 rfl ?_
    refine aw_ldcS X (i := 16) (tx0 := "cluster point task margin hold sleep boost limit cool tick move ask drop stop start settle ") (by decide) dX12_known_9 ?_
    refine aw_callT X [] [z_i (k : Int)] [z_i ((ax_tl.getD 16 0 : Nat) : Int), z_i (k : Int)] q_x125 (by decide) rfl (C_length l D cA sa ad bs n sh 16 (by decide) σ) rfl ⟨(Nat.le_of_ble_eq_true rfl), (Nat.le_of_ble_eq_true rfl), (Nat.le_of_ble_eq_true rfl), (Nat.le_of_ble_eq_true rfl)⟩ rfl (Nat.le_of_ble_eq_true rfl) rfl dX12_known_11 (fun _ => ?_)
    refine aw_icmp_ge X (tgt := 65) (z_nat (by omega)) (z_lit (x := 91) (by decide)) dX12_known_14 (by decide) (fun h => absurd h (by show ¬ ((91 : Nat) : Int) ≤ _; omega)) (fun h => ?_)
    refine aw_ldcS X (i := 16) (tx0 := "cluster point task margin hold sleep boost limit cool tick move ask drop stop start settle ") (by decide) dX12_known_17 ?_
    refine aw_iload X 3 dX12_known_19 rfl ?_
    refine aw_callT X [z_i (k : Int)] [] [z_i (tx 16 k)] q_x129 (by decide) rfl (C_charAt l D cA sa ad bs n sh 16 k (by decide) hk2 σ) rfl ⟨(Nat.le_of_ble_eq_true rfl), (Nat.le_of_ble_eq_true rfl), (Nat.le_of_ble_eq_true rfl), (Nat.le_of_ble_eq_true rfl)⟩ rfl (Nat.le_of_ble_eq_true rfl) rfl dX12_known_21 (fun _ => ?_)
    refine aw_bipush X dX12_known_24 (by decide) ?_
    refine aw_icmp_eq X (tgt := 46) ct (z_lit (x := 32) (by decide)) dX12_known_26 (by decide) (fun h => ?_) (fun h => ?_)
    · rw [if_pos h] at hs
      rw [Bool.and_eq_true, Bool.and_eq_true] at hs
      have e1 : st.1 = z_words.getD st.2 0 := by simpa using hs.1
      have e2 : st.2 < 16 := by simpa using hs.2.1
      refine aw_lload_n X 2 dX12_known_46 rfl rfl ?_
      refine aw_lload_n X 0 dX12_known_47 rfl rfl ?_
      refine aw_lcmp X cst cw dX12_known_48 ?_
      have e3 : 16 - st.2 = (15 - st.2) + 1 := by omega
      have e4 : 15 - (15 - st.2) = st.2 := by omega
      refine aw_if_ne X (tgt := 54) (z_cmp_in _ _) dX12_known_49 (by decide) (fun h2 => ?_) (fun h2 => ?_)
      · have hne : ¬ z_words.getD (15 - (15 - st.2)) 0 = w := by rw [e4, ← e1]; exact fun z => h2 (z_cmp_0.mpr z)
        rw [show z_wno w (16 - st.2) = z_wno w (15 - st.2) from by rw [e3]; show (if _ then _ else _) = _; rw [if_neg hne]]
        refine aw_lconst X (x := 0) dX12_known_54 (by decide) ?_
        refine aw_lstore_n X [(3, z_v 0), (0, z_v w), (2, z_i (st.2 : Int)), (5, z_i (k : Int))] dX12_known_55 rfl (by decide) rfl ?_
        refine aw_iinc X 2 [(2, z_i (z_w ((st.2 : Int) + 1))), (3, z_v 0), (0, z_v w), (5, z_i (k : Int))] dX12_known_56 rfl (by decide) rfl ?_
        refine aw_iinc X 3 [(5, z_i (z_w ((k : Int) + 1))), (2, z_i (z_w ((st.2 : Int) + 1))), (3, z_v 0), (0, z_v w)] dX12_known_59 rfl (by decide) rfl ?_
        refine aw_goto X (tgt := 7) dX12_known_62 (by decide) ?_
        refine aw_sub [3, 1, 2, 0] rfl ?_
        rw [z_wk (by omega), z_wk (by omega), show 15 - st.2 = 16 - (st.2 + 1) from by omega]
        exact ih (k + 1) (0, st.2 + 1) (by omega) (z_litL (x := 0) (by decide)) hs.2.2
      · have he : z_words.getD (15 - (15 - st.2)) 0 = w := by rw [e4, ← e1]; exact z_cmp_0.mp h2
        rw [show z_wno w (16 - st.2) = (st.2 : Int) from by rw [e3]; show (if _ then _ else _) = _; rw [if_pos he, e4]]
        refine aw_iload_n X 1 dX12_known_52 rfl rfl ?_
        exact aw_iret X (z_nat (by omega)) hr rfl dX12_known_53
    · rw [if_neg h] at hs
      refine aw_lload_n X 2 dX12_known_29 rfl rfl ?_
      refine aw_bipush X dX12_known_30 (by decide) ?_
      refine aw_lshl X dX12_known_32 ?_
      refine aw_ldcS X (i := 16) (tx0 := "cluster point task margin hold sleep boost limit cool tick move ask drop stop start settle ") (by decide) dX12_known_33 ?_
      refine aw_iload X 3 dX12_known_35 rfl ?_
      refine aw_callT X [z_i (k : Int)] [z_v (z_shlL st.1 8)] [z_i (tx 16 k), z_v (z_shlL st.1 8)] q_x129 (by decide) rfl (C_charAt l D cA sa ad bs n sh 16 k (by decide) hk2 σ) rfl ⟨(Nat.le_of_ble_eq_true rfl), (Nat.le_of_ble_eq_true rfl), (Nat.le_of_ble_eq_true rfl), (Nat.le_of_ble_eq_true rfl)⟩ rfl (Nat.le_of_ble_eq_true rfl) rfl dX12_known_37 (fun _ => ?_)
      refine aw_i2l X ct dX12_known_40 ?_
      refine aw_lor X dX12_known_41 ?_
      refine aw_lstore_n X [(3, z_v (z_orL (z_shlL st.1 8) (tx 16 k))), (0, z_v w), (2, z_i (st.2 : Int)), (5, z_i (k : Int))] dX12_known_42 rfl (by decide) rfl ?_
      refine aw_goto X (tgt := 59) dX12_known_43 (by decide) ?_
      refine aw_iinc X 3 [(5, z_i (z_w ((k : Int) + 1))), (3, z_v (z_orL (z_shlL st.1 8) (tx 16 k))), (0, z_v w), (2, z_i (st.2 : Int))] dX12_known_59 rfl (by decide) rfl ?_
      refine aw_goto X (tgt := 7) dX12_known_62 (by decide) ?_
      refine aw_sub [2, 3, 1, 0] rfl ?_
      rw [z_wk (by omega)]
      exact ih (k + 1) (z_orL (z_shlL st.1 8) (tx 16 k), st.2) (by omega) (z_orL_in _ _) hs
end S_known
set_option maxHeartbeats 4000000 in
set_option maxRecDepth 100000 in
theorem C_X10_wordNumber (l : Launch) (D : va_G) (cA : Nat → ClassId) (sa ad : Nat → Nat) (bs : Nat) (v0 : Int) (c_v0 : Z_L v0) (σ : Nat → Nat → Int) (q : Int) (hf : f_X10_wordNumber v0 σ = some q) : AM l D cA sa ad bs 788 SHp yX10_wordNumber cX10_wordNumber 3 (some .int) 6 [z_v v0] σ (some (z_i q)) (Z_I q) σ := by
  obtain rfl := Option.some.inj hf
  refine am_of (by decide +kernel) (Nat.le_of_ble_eq_true rfl) (fun p e s m args below meth c X hr => ?_)
  refine aw_lv (lv' := [(0, z_v v0)]) rfl ?_
  refine aw_iconst X dX10_wordNumber_0 ?_
  refine aw_istore_n X [(2, z_i 0), (0, z_v v0)] dX10_wordNumber_1 rfl (by decide) rfl ?_
  refine aw_sub [1, 0] rfl ?_
  exact A_wordNumber X hr v0 c_v0 16 0 rfl
set_option maxHeartbeats 4000000 in
set_option maxRecDepth 100000 in
theorem C_X12_known (l : Launch) (D : va_G) (cA : Nat → ClassId) (sa ad : Nat → Nat) (bs : Nat) (v0 : Int) (c_v0 : Z_L v0) (σ : Nat → Nat → Int) (q : Int) (hf : f_X12_known v0 σ = some q) : AM l D cA sa ad bs 788 SHp yX12_known cX12_known 6 (some .int) 6 [z_v v0] σ (some (z_i q)) (Z_I q) σ := by
  obtain rfl := Option.some.inj hf
  refine am_of (by decide +kernel) (Nat.le_of_ble_eq_true rfl) (fun p e s m args below meth c X hr => ?_)
  refine aw_lv (lv' := [(0, z_v v0)]) rfl ?_
  refine aw_iconst X dX12_known_0 ?_
  refine aw_istore_n X [(2, z_i 0), (0, z_v v0)] dX12_known_1 rfl (by decide) rfl ?_
  refine aw_lconst X (x := 0) dX12_known_2 (by decide) ?_
  refine aw_lstore_n X [(3, z_v 0), (2, z_i 0), (0, z_v v0)] dX12_known_3 rfl (by decide) rfl ?_
  refine aw_iconst X dX12_known_4 ?_
  refine aw_istore X [(5, z_i 0), (3, z_v 0), (2, z_i 0), (0, z_v v0)] dX12_known_5 (by decide) rfl ?_
  refine aw_sub [3, 2, 1, 0] rfl ?_
  exact A_known X hr v0 c_v0 91 0 (0, 0) rfl (z_litL (x := 0) (by decide)) kst2_ok
