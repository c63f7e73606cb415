-- SpeedDesk$Texts.readNewName(LSpeedDesk$Chip;)J
section S_X10_readNewName
variable {p : Program} {l : Launch} {e : Env} {s : State} {m : MethodId} {args : Array Value} {below : List Frame} {meth : Method} {c : Code} {D : va_G} {cA : Nat → ClassId} {sa ad : Nat → Nat} {bs : Nat} {q : (Int × (Nat → Nat → Int))}
set_option maxHeartbeats 4000000 in
set_option maxRecDepth 100000 in
theorem A_X10_readNewName_24 (X : AX p s m args meth c D cA sa bs cX10_readNewName 4 RX10) (hr : meth.sig.returnType = (some .long)) (v2 : Int) (c_v2 : Z_L v2) (σ : Nat → Nat → Int) (hf : f_X10_readNewName_24 v2 σ = some q) : AW p l e (ax_rm 7 0 0) s m args below meth c D cA ad bs 788 SHp 0 0 (ax_MQ below args s D cA ad bs 788 SHp 0 0 (some (z_v q.1)) (Z_L q.1) q.2) 4 24 [(0, .ref (ad 1)), (2, z_v v2)] [] σ := by
  unfold f_X10_readNewName_24 at hf
  refine aw_aload_n X 0 dX10_readNewName_24 rfl rfl ?_
  refine aw_getR X s_1 fX10_12 rfl dX10_readNewName_25 ?_
  obtain ⟨q12, e13, hf⟩ := z_bd hf
  refine aw_callV X [] [] [] cX10_62 s_2 ciX9 (C_X9_refusePart l D cA sa ad bs σ q12 e13) rfl ⟨(Nat.le_of_ble_eq_true rfl), (Nat.le_of_ble_eq_true rfl), (Nat.le_of_ble_eq_true rfl), (Nat.le_of_ble_eq_true rfl)⟩ rfl (Nat.le_of_ble_eq_true rfl) rfl dX10_readNewName_28 (fun p14 => ?_)
  refine aw_lload_n X 1 dX10_readNewName_31 rfl rfl ?_
  obtain rfl := Option.some.inj hf
  exact aw_lret X c_v2 hr rfl dX10_readNewName_32
end S_X10_readNewName
set_option maxHeartbeats 4000000 in
set_option maxRecDepth 100000 in
theorem C_X10_readNewName (l : Launch) (D : va_G) (cA : Nat → ClassId) (sa ad : Nat → Nat) (bs : Nat) (a1 : Nat) (h_a1 : a1 ∈ ax_iX1) (σ : Nat → Nat → Int) (q : (Int × (Nat → Nat → Int))) (hf : f_X10_readNewName a1 σ = some q) : AM l D cA sa ad bs 788 SHp yX10_readNewName cX10_readNewName 4 (some .long) 7 [.ref (ad 1), .ref (ad a1)] σ (some (z_v q.1)) (Z_L q.1) q.2 := by
  refine am_of (by decide +kernel) (Nat.le_of_ble_eq_true rfl) (fun p e s m args below meth c X hr => ?_)
  refine aw_lv (lv' := [(0, .ref (ad 1)), (1, .ref (ad a1))]) rfl ?_
  unfold f_X10_readNewName at hf
  refine aw_aload_n X 0 dX10_readNewName_0 rfl rfl ?_
  refine aw_getR X s_1 fX10_12 rfl dX10_readNewName_1 ?_
  obtain ⟨q1, e2, hf⟩ := z_bd hf
  refine aw_callV X [] [] [z_v q1.1] cX10_65 s_2 ciX9 (C_X9_readWord l D cA sa ad bs σ q1 e2) rfl ⟨(Nat.le_of_ble_eq_true rfl), (Nat.le_of_ble_eq_true rfl), (Nat.le_of_ble_eq_true rfl), (Nat.le_of_ble_eq_true rfl)⟩ rfl (Nat.le_of_ble_eq_true rfl) rfl dX10_readNewName_4 (fun p3 => ?_)
  refine aw_lstore_n X [(2, z_v q1.1), (0, .ref (ad 1)), (1, .ref (ad a1))] dX10_readNewName_7 rfl (by decide) rfl ?_
  refine aw_lload_n X 0 dX10_readNewName_8 rfl rfl ?_
  obtain ⟨q4, e5, hf⟩ := z_bd hf
  refine aw_callS X [z_v q1.1] [] [z_i q4] cX10_69 (C_X10_wordNumber l D cA sa ad bs q1.1 p3 q1.2 q4 e5) rfl ⟨(Nat.le_of_ble_eq_true rfl), (Nat.le_of_ble_eq_true rfl), (Nat.le_of_ble_eq_true rfl), (Nat.le_of_ble_eq_true rfl)⟩ rfl (Nat.le_of_ble_eq_true rfl) rfl dX10_readNewName_9 (fun p6 => ?_)
  refine aw_iconst X dX10_readNewName_12 ?_
  refine aw_icmp_ne X (tgt := 24) p6 (z_lit (x := (-1)) (by decide)) dX10_readNewName_13 (by decide) (fun h7 => ?_) (fun h7 => ?_)
  · rw [if_neg h7] at hf
    refine aw_sub [1, 0] rfl ?_
    exact A_X10_readNewName_24 X hr q1.1 p3 q1.2 hf
  · rw [if_pos h7] at hf
    refine aw_aload_n X 2 dX10_readNewName_16 rfl rfl ?_
    refine aw_lload_n X 0 dX10_readNewName_17 rfl rfl ?_
    obtain ⟨q8, e9, hf⟩ := z_bd hf
    refine aw_callV X [z_v q1.1] [] [z_i q8] cX10_154 (sX1_0 a1 h_a1) ciX1 (C_X1_hasName l D cA sa ad bs a1 h_a1 q1.1 p3 q1.2 q8 e9) rfl ⟨(Nat.le_of_ble_eq_true rfl), (Nat.le_of_ble_eq_true rfl), (Nat.le_of_ble_eq_true rfl), (Nat.le_of_ble_eq_true rfl)⟩ rfl (Nat.le_of_ble_eq_true rfl) rfl dX10_readNewName_18 (fun p10 => ?_)
    refine aw_if_eq X (tgt := 31) (z_zI p10) dX10_readNewName_21 (by decide) (fun h11 => ?_) (fun h11 => ?_)
    · rw [if_pos h11] at hf
      refine aw_lload_n X 0 dX10_readNewName_31 rfl rfl ?_
      obtain rfl := Option.some.inj hf
      exact aw_lret X p3 hr rfl dX10_readNewName_32
    · rw [if_neg h11] at hf
      refine aw_sub [1, 0] rfl ?_
      exact A_X10_readNewName_24 X hr q1.1 p3 q1.2 hf
-- SpeedDesk$Texts.readCluster(LSpeedDesk$Chip;)V
section S_X10_readCluster
variable {p : Program} {l : Launch} {e : Env} {s : State} {m : MethodId} {args : Array Value} {below : List Frame} {meth : Method} {c : Code} {D : va_G} {cA : Nat → ClassId} {sa ad : Nat → Nat} {bs : Nat} {q : (Nat → Nat → Int)}

end S_X10_readCluster
set_option maxHeartbeats 4000000 in
set_option maxRecDepth 100000 in
theorem C_X10_readCluster (l : Launch) (D : va_G) (cA : Nat → ClassId) (sa ad : Nat → Nat) (bs : Nat) (a1 : Nat) (h_a1 : a1 ∈ ax_iX1) (σ : Nat → Nat → Int) (q : (Nat → Nat → Int)) (hf : f_X10_readCluster a1 σ = some q) : AM l D cA sa ad bs 788 SHp yX10_readCluster cX10_readCluster 7 none 8 [.ref (ad 1), .ref (ad a1)] σ none True q := by
  refine am_of (by decide +kernel) (Nat.le_of_ble_eq_true rfl) (fun p e s m args below meth c X hr => ?_)
  refine aw_lv (lv' := [(0, .ref (ad 1)), (1, .ref (ad a1))]) rfl ?_
  unfold f_X10_readCluster at hf
  refine aw_aload_n X 1 dX10_readCluster_0 rfl rfl ?_
  refine aw_getI X (sX1_0 a1 h_a1) fX10_86 rfl dX10_readCluster_1 (fun c1 => ?_)
  refine aw_iconst X dX10_readCluster_4 ?_
  refine aw_icmp_lt X (tgt := 16) c1 (z_lit (x := 3) (by decide)) dX10_readCluster_5 (by decide) (fun h2 => ?_) (fun h2 => ?_)
  · rw [if_pos h2] at hf
    refine aw_aload_n X 0 dX10_readCluster_16 rfl rfl ?_
    refine aw_aload_n X 1 dX10_readCluster_17 rfl rfl ?_
    obtain ⟨q3, e4, hf⟩ := z_bd hf
    refine aw_callV X [.ref (ad a1)] [] [z_v q3.1] cX10_89 s_1 ciX10 (C_X10_readNewName l D cA sa ad bs a1 h_a1 σ q3 e4) rfl ⟨(Nat.le_of_ble_eq_true rfl), (Nat.le_of_ble_eq_true rfl), (Nat.le_of_ble_eq_true rfl), (Nat.le_of_ble_eq_true rfl)⟩ rfl (Nat.le_of_ble_eq_true rfl) rfl dX10_readCluster_18 (fun p5 => ?_)
    refine aw_lstore_n X [(2, z_v q3.1), (0, .ref (ad 1)), (1, .ref (ad a1))] dX10_readCluster_21 rfl (by decide) rfl ?_
    refine aw_aload_n X 1 dX10_readCluster_22 rfl rfl ?_
    refine aw_getR X s_1 fX10_12 rfl dX10_readCluster_23 ?_
    refine aw_iconst X dX10_readCluster_26 ?_
    refine aw_iconst X dX10_readCluster_27 ?_
    refine aw_bipush X dX10_readCluster_28 (by decide) ?_
    refine aw_aload_n X 2 dX10_readCluster_30 rfl rfl ?_
    refine aw_getI X (sX1_0 a1 h_a1) fX10_93 rfl dX10_readCluster_31 (fun c6 => ?_)
    refine aw_isub X dX10_readCluster_34 ?_
    refine aw_min X (z_lit (x := 3) (by decide)) (z_w_in _) cX10_96 ⟨(Nat.le_of_ble_eq_true rfl), (Nat.le_of_ble_eq_true rfl), (Nat.le_of_ble_eq_true rfl), (Nat.le_of_ble_eq_true rfl)⟩ dX10_readCluster_35 ?_
    obtain ⟨q7, e8, hf⟩ := z_bd hf
    refine aw_callV X [z_i 1, z_i (min 3 (z_w (6 - (q3.2 a1 2))))] [] [z_i q7.1] cX10_102 s_2 ciX9 (C_X9_readNumber l D cA sa ad bs 1 (z_lit (x := 1) (by decide)) (min 3 (z_w (6 - (q3.2 a1 2)))) (z_min_in (z_lit (x := 3) (by decide)) (z_w_in _)) q3.2 q7 e8) rfl ⟨(Nat.le_of_ble_eq_true rfl), (Nat.le_of_ble_eq_true rfl), (Nat.le_of_ble_eq_true rfl), (Nat.le_of_ble_eq_true rfl)⟩ rfl (Nat.le_of_ble_eq_true rfl) rfl dX10_readCluster_38 (fun p9 => ?_)
    refine aw_istore X [(4, z_i q7.1), (2, z_v q3.1), (0, .ref (ad 1)), (1, .ref (ad a1))] dX10_readCluster_41 (by decide) rfl ?_
    refine aw_aload_n X 2 dX10_readCluster_43 rfl rfl ?_
    refine aw_getR X s_1 fX10_12 rfl dX10_readCluster_44 ?_
    refine aw_iconst X dX10_readCluster_47 ?_
    refine aw_bipush X dX10_readCluster_48 (by decide) ?_
    obtain ⟨q10, e11, hf⟩ := z_bd hf
    refine aw_callV X [z_i 0, z_i 99] [] [z_i q10.1] cX10_102 s_2 ciX9 (C_X9_readNumber l D cA sa ad bs 0 (z_lit (x := 0) (by decide)) 99 (z_lit (x := 99) (by decide)) q7.2 q10 e11) rfl ⟨(Nat.le_of_ble_eq_true rfl), (Nat.le_of_ble_eq_true rfl), (Nat.le_of_ble_eq_true rfl), (Nat.le_of_ble_eq_true rfl)⟩ rfl (Nat.le_of_ble_eq_true rfl) rfl dX10_readCluster_50 (fun p12 => ?_)
    refine aw_istore X [(5, z_i q10.1), (4, z_i q7.1), (2, z_v q3.1), (0, .ref (ad 1)), (1, .ref (ad a1))] dX10_readCluster_53 (by decide) rfl ?_
    refine aw_aload_n X 3 dX10_readCluster_55 rfl rfl ?_
    refine aw_getR X s_1 fX10_12 rfl dX10_readCluster_56 ?_
    refine aw_iconst X dX10_readCluster_59 ?_
    refine aw_bipush X dX10_readCluster_60 (by decide) ?_
    obtain ⟨q13, e14, hf⟩ := z_bd hf
    refine aw_callV X [z_i 0, z_i 99] [] [z_i q13.1] cX10_102 s_2 ciX9 (C_X9_readNumber l D cA sa ad bs 0 (z_lit (x := 0) (by decide)) 99 (z_lit (x := 99) (by decide)) q10.2 q13 e14) rfl ⟨(Nat.le_of_ble_eq_true rfl), (Nat.le_of_ble_eq_true rfl), (Nat.le_of_ble_eq_true rfl), (Nat.le_of_ble_eq_true rfl)⟩ rfl (Nat.le_of_ble_eq_true rfl) rfl dX10_readCluster_62 (fun p15 => ?_)
    refine aw_istore X [(6, z_i q13.1), (5, z_i q10.1), (4, z_i q7.1), (2, z_v q3.1), (0, .ref (ad 1)), (1, .ref (ad a1))] dX10_readCluster_65 (by decide) rfl ?_
    refine aw_aload_n X 4 dX10_readCluster_67 rfl rfl ?_
    refine aw_getR X s_1 fX10_12 rfl dX10_readCluster_68 ?_
    obtain ⟨q16, e17, hf⟩ := z_bd hf
    refine aw_callV X [] [] [z_i q16] cX10_30 s_2 ciX9 (C_X9_isSound l D cA sa ad bs q13.2 q16 e17) rfl ⟨(Nat.le_of_ble_eq_true rfl), (Nat.le_of_ble_eq_true rfl), (Nat.le_of_ble_eq_true rfl), (Nat.le_of_ble_eq_true rfl)⟩ rfl (Nat.le_of_ble_eq_true rfl) rfl dX10_readCluster_71 (fun p18 => ?_)
    refine aw_if_eq X (tgt := 88) (z_zI p18) dX10_readCluster_74 (by decide) (fun h19 => ?_) (fun h19 => ?_)
    · rw [if_pos h19] at hf
      obtain rfl := Option.some.inj hf
      exact aw_vret X trivial hr rfl dX10_readCluster_88
    · rw [if_neg h19] at hf
      refine aw_aload_n X 5 dX10_readCluster_77 rfl rfl ?_
      refine aw_lload_n X 3 dX10_readCluster_78 rfl rfl ?_
      refine aw_iload X 2 dX10_readCluster_79 rfl ?_
      refine aw_iload X 1 dX10_readCluster_81 rfl ?_
      refine aw_iload X 0 dX10_readCluster_83 rfl ?_
      obtain ⟨q20, e21, hf⟩ := z_bd hf
      refine aw_callV X [z_v q3.1, z_i q7.1, z_i q10.1, z_i q13.1] [] [] cX10_105 (sX1_0 a1 h_a1) ciX1 (C_X1_addCluster l D cA sa ad bs a1 h_a1 q3.1 p5 q7.1 p9 q10.1 p12 q13.1 p15 q13.2 q20 e21) rfl ⟨(Nat.le_of_ble_eq_true rfl), (Nat.le_of_ble_eq_true rfl), (Nat.le_of_ble_eq_true rfl), (Nat.le_of_ble_eq_true rfl)⟩ rfl (Nat.le_of_ble_eq_true rfl) rfl dX10_readCluster_85 (fun p22 => ?_)
      obtain rfl := Option.some.inj hf
      exact aw_vret X trivial hr rfl dX10_readCluster_88
  · rw [if_neg h2] at hf
    refine aw_aload_n X 0 dX10_readCluster_8 rfl rfl ?_
    refine aw_getR X s_1 fX10_12 rfl dX10_readCluster_9 ?_
    obtain ⟨q23, e24, hf⟩ := z_bd hf
    refine aw_callV X [] [] [] cX10_62 s_2 ciX9 (C_X9_refusePart l D cA sa ad bs σ q23 e24) rfl ⟨(Nat.le_of_ble_eq_true rfl), (Nat.le_of_ble_eq_true rfl), (Nat.le_of_ble_eq_true rfl), (Nat.le_of_ble_eq_true rfl)⟩ rfl (Nat.le_of_ble_eq_true rfl) rfl dX10_readCluster_12 (fun p25 => ?_)
    obtain rfl := Option.some.inj hf
    exact aw_vret X trivial hr rfl dX10_readCluster_15
-- SpeedDesk$Texts.readPoint(LSpeedDesk$Chip;)V
section S_X10_readPoint
variable {p : Program} {l : Launch} {e : Env} {s : State} {m : MethodId} {args : Array Value} {below : List Frame} {meth : Method} {c : Code} {D : va_G} {cA : Nat → ClassId} {sa ad : Nat → Nat} {bs : Nat} {q : (Nat → Nat → Int)}
set_option maxHeartbeats 4000000 in
set_option maxRecDepth 100000 in
theorem A_X10_readPoint_30 (X : AX p s m args meth c D cA sa bs cX10_readPoint 5 RX10) (hr : meth.sig.returnType = none)  (σ : Nat → Nat → Int) (hf : f_X10_readPoint_30 σ = some q) : AW p l e (ax_rm 3 0 0) s m args below meth c D cA ad bs 788 SHp 0 0 (ax_MQ below args s D cA ad bs 788 SHp 0 0 none True q) 5 30 [(0, .ref (ad 1))] [] σ := by
  unfold f_X10_readPoint_30 at hf
  refine aw_aload_n X 0 dX10_readPoint_30 rfl rfl ?_
  refine aw_getR X s_1 fX10_12 rfl dX10_readPoint_31 ?_
  obtain ⟨q30, e31, hf⟩ := z_bd hf
  refine aw_callV X [] [] [] cX10_62 s_2 ciX9 (C_X9_refusePart l D cA sa ad bs σ q30 e31) rfl ⟨(Nat.le_of_ble_eq_true rfl), (Nat.le_of_ble_eq_true rfl), (Nat.le_of_ble_eq_true rfl), (Nat.le_of_ble_eq_true rfl)⟩ rfl (Nat.le_of_ble_eq_true rfl) rfl dX10_readPoint_34 (fun p32 => ?_)
  obtain rfl := Option.some.inj hf
  exact aw_vret X trivial hr rfl dX10_readPoint_37
end S_X10_readPoint
set_option maxHeartbeats 4000000 in
set_option maxRecDepth 100000 in
theorem C_X10_readPoint (l : Launch) (D : va_G) (cA : Nat → ClassId) (sa ad : Nat → Nat) (bs : Nat) (a1 : Nat) (h_a1 : a1 ∈ ax_iX1) (σ : Nat → Nat → Int) (q : (Nat → Nat → Int)) (hf : f_X10_readPoint a1 σ = some q) : AM l D cA sa ad bs 788 SHp yX10_readPoint cX10_readPoint 5 none 3 [.ref (ad 1), .ref (ad a1)] σ none True q := by
  refine am_of (by decide +kernel) (Nat.le_of_ble_eq_true rfl) (fun p e s m args below meth c X hr => ?_)
  refine aw_lv (lv' := [(0, .ref (ad 1)), (1, .ref (ad a1))]) rfl ?_
  unfold f_X10_readPoint at hf
  refine aw_aload_n X 1 dX10_readPoint_0 rfl rfl ?_
  refine aw_aload_n X 0 dX10_readPoint_1 rfl rfl ?_
  refine aw_getR X s_1 fX10_12 rfl dX10_readPoint_2 ?_
  obtain ⟨q1, e2, hf⟩ := z_bd hf
  refine aw_callV X [] [.ref (ad a1)] [z_v q1.1, .ref (ad a1)] cX10_65 s_2 ciX9 (C_X9_readWord l D cA sa ad bs σ q1 e2) rfl ⟨(Nat.le_of_ble_eq_true rfl), (Nat.le_of_ble_eq_true rfl), (Nat.le_of_ble_eq_true rfl), (Nat.le_of_ble_eq_true rfl)⟩ rfl (Nat.le_of_ble_eq_true rfl) rfl dX10_readPoint_5 (fun p3 => ?_)
  obtain ⟨q4, e5, hf⟩ := z_bd hf
  refine aw_callV X [z_v q1.1] [] [z_i q4] cX10_109 (sX1_0 a1 h_a1) ciX1 (C_X1_clusterNamed l D cA sa ad bs a1 h_a1 q1.1 p3 q1.2 q4 e5) rfl ⟨(Nat.le_of_ble_eq_true rfl), (Nat.le_of_ble_eq_true rfl), (Nat.le_of_ble_eq_true rfl), (Nat.le_of_ble_eq_true rfl)⟩ rfl (Nat.le_of_ble_eq_true rfl) rfl dX10_readPoint_8 (fun p6 => ?_)
  refine aw_istore_n X [(2, z_i q4), (0, .ref (ad 1)), (1, .ref (ad a1))] dX10_readPoint_11 rfl (by decide) rfl ?_
  refine aw_aload_n X 2 dX10_readPoint_12 rfl rfl ?_
  refine aw_iload_n X 0 dX10_readPoint_13 rfl rfl ?_
  obtain ⟨q7, e8, hf⟩ := z_bd hf
  refine aw_callV X [z_i q4] [] [z_i q7] cX10_112 (sX1_0 a1 h_a1) ciX1 (C_X1_hasCluster l D cA sa ad bs a1 h_a1 q4 p6 q1.2 q7 e8) rfl ⟨(Nat.le_of_ble_eq_true rfl), (Nat.le_of_ble_eq_true rfl), (Nat.le_of_ble_eq_true rfl), (Nat.le_of_ble_eq_true rfl)⟩ rfl (Nat.le_of_ble_eq_true rfl) rfl dX10_readPoint_14 (fun p9 => ?_)
  refine aw_if_eq X (tgt := 30) (z_zI p9) dX10_readPoint_17 (by decide) (fun h10 => ?_) (fun h10 => ?_)
  · rw [if_pos h10] at hf
    refine aw_sub [1] rfl ?_
    exact A_X10_readPoint_30 X hr q1.2 hf
  · rw [if_neg h10] at hf
    refine aw_aload_n X 2 dX10_readPoint_20 rfl rfl ?_
    refine aw_getR X (sX1_0 a1 h_a1) fX10_116 rfl dX10_readPoint_21 ?_
    refine aw_iload_n X 0 dX10_readPoint_24 rfl rfl ?_
    obtain ⟨g11, hf⟩ := z_gd hf
    refine aw_iald X (j := q4.toNat) (sX1_5 a1 h_a1) p6 g11.1 g11.2 rfl dX10_readPoint_25 (fun c12 => ?_)
    refine aw_iconst X dX10_readPoint_26 ?_
    refine aw_icmp_lt X (tgt := 38) c12 (z_lit (x := 5) (by decide)) dX10_readPoint_27 (by decide) (fun h13 => ?_) (fun h13 => ?_)
    · rw [if_pos h13] at hf
      refine aw_aload_n X 1 dX10_readPoint_38 rfl rfl ?_
      refine aw_getR X s_1 fX10_12 rfl dX10_readPoint_39 ?_
      refine aw_aload_n X 2 dX10_readPoint_42 rfl rfl ?_
      refine aw_iload_n X 0 dX10_readPoint_43 rfl rfl ?_
      obtain ⟨q14, e15, hf⟩ := z_bd hf
      refine aw_callV X [z_i q4] [.ref (ad 2)] [z_i q14, .ref (ad 2)] cX10_120 (sX1_0 a1 h_a1) ciX1 (C_X1_lastSpeed l D cA sa ad bs a1 h_a1 q4 p6 q1.2 q14 e15) rfl ⟨(Nat.le_of_ble_eq_true rfl), (Nat.le_of_ble_eq_true rfl), (Nat.le_of_ble_eq_true rfl), (Nat.le_of_ble_eq_true rfl)⟩ rfl (Nat.le_of_ble_eq_true rfl) rfl dX10_readPoint_44 (fun p16 => ?_)
      refine aw_iconst X dX10_readPoint_47 ?_
      refine aw_iadd X dX10_readPoint_48 ?_
      refine aw_bipush X dX10_readPoint_49 (by decide) ?_
      obtain ⟨q17, e18, hf⟩ := z_bd hf
      refine aw_callV X [z_i (z_w (q14 + 1)), z_i 99] [] [z_i q17.1] cX10_102 s_2 ciX9 (C_X9_readNumber l D cA sa ad bs (z_w (q14 + 1)) (z_w_in _) 99 (z_lit (x := 99) (by decide)) q1.2 q17 e18) rfl ⟨(Nat.le_of_ble_eq_true rfl), (Nat.le_of_ble_eq_true rfl), (Nat.le_of_ble_eq_true rfl), (Nat.le_of_ble_eq_true rfl)⟩ rfl (Nat.le_of_ble_eq_true rfl) rfl dX10_readPoint_51 (fun p19 => ?_)
      refine aw_istore_n X [(3, z_i q17.1), (2, z_i q4), (0, .ref (ad 1)), (1, .ref (ad a1))] dX10_readPoint_54 rfl (by decide) rfl ?_
      refine aw_aload_n X 2 dX10_readPoint_55 rfl rfl ?_
      refine aw_getR X s_1 fX10_12 rfl dX10_readPoint_56 ?_
      refine aw_iconst X dX10_readPoint_59 ?_
      refine aw_bipush X dX10_readPoint_60 (by decide) ?_
      obtain ⟨q20, e21, hf⟩ := z_bd hf
      refine aw_callV X [z_i 1, z_i 99] [] [z_i q20.1] cX10_102 s_2 ciX9 (C_X9_readNumber l D cA sa ad bs 1 (z_lit (x := 1) (by decide)) 99 (z_lit (x := 99) (by decide)) q17.2 q20 e21) rfl ⟨(Nat.le_of_ble_eq_true rfl), (Nat.le_of_ble_eq_true rfl), (Nat.le_of_ble_eq_true rfl), (Nat.le_of_ble_eq_true rfl)⟩ rfl (Nat.le_of_ble_eq_true rfl) rfl dX10_readPoint_62 (fun p22 => ?_)
      refine aw_istore X [(4, z_i q20.1), (3, z_i q17.1), (2, z_i q4), (0, .ref (ad 1)), (1, .ref (ad a1))] dX10_readPoint_65 (by decide) rfl ?_
      refine aw_aload_n X 3 dX10_readPoint_67 rfl rfl ?_
      refine aw_getR X s_1 fX10_12 rfl dX10_readPoint_68 ?_
      obtain ⟨q23, e24, hf⟩ := z_bd hf
      refine aw_callV X [] [] [z_i q23] cX10_30 s_2 ciX9 (C_X9_isSound l D cA sa ad bs q20.2 q23 e24) rfl ⟨(Nat.le_of_ble_eq_true rfl), (Nat.le_of_ble_eq_true rfl), (Nat.le_of_ble_eq_true rfl), (Nat.le_of_ble_eq_true rfl)⟩ rfl (Nat.le_of_ble_eq_true rfl) rfl dX10_readPoint_71 (fun p25 => ?_)
      refine aw_if_eq X (tgt := 85) (z_zI p25) dX10_readPoint_74 (by decide) (fun h26 => ?_) (fun h26 => ?_)
      · rw [if_pos h26] at hf
        obtain rfl := Option.some.inj hf
        exact aw_vret X trivial hr rfl dX10_readPoint_85
      · rw [if_neg h26] at hf
        refine aw_aload_n X 4 dX10_readPoint_77 rfl rfl ?_
        refine aw_iload_n X 2 dX10_readPoint_78 rfl rfl ?_
        refine aw_iload_n X 1 dX10_readPoint_79 rfl rfl ?_
        refine aw_iload X 0 dX10_readPoint_80 rfl ?_
        obtain ⟨q27, e28, hf⟩ := z_bd hf
        refine aw_callV X [z_i q4, z_i q17.1, z_i q20.1] [] [] cX10_124 (sX1_0 a1 h_a1) ciX1 (C_X1_addPoint l D cA sa ad bs a1 h_a1 q4 p6 q17.1 p19 q20.1 p22 q20.2 q27 e28) rfl ⟨(Nat.le_of_ble_eq_true rfl), (Nat.le_of_ble_eq_true rfl), (Nat.le_of_ble_eq_true rfl), (Nat.le_of_ble_eq_true rfl)⟩ rfl (Nat.le_of_ble_eq_true rfl) rfl dX10_readPoint_82 (fun p29 => ?_)
        obtain rfl := Option.some.inj hf
        exact aw_vret X trivial hr rfl dX10_readPoint_85
    · rw [if_neg h13] at hf
      refine aw_sub [1] rfl ?_
      exact A_X10_readPoint_30 X hr q1.2 hf
-- SpeedDesk$Texts.readTask(LSpeedDesk$Chip;)V
section S_X10_readTask
variable {p : Program} {l : Launch} {e : Env} {s : State} {m : MethodId} {args : Array Value} {below : List Frame} {meth : Method} {c : Code} {D : va_G} {cA : Nat → ClassId} {sa ad : Nat → Nat} {bs : Nat} {q : (Nat → Nat → Int)}

end S_X10_readTask
set_option maxHeartbeats 4000000 in
set_option maxRecDepth 100000 in
theorem C_X10_readTask (l : Launch) (D : va_G) (cA : Nat → ClassId) (sa ad : Nat → Nat) (bs : Nat) (a1 : Nat) (h_a1 : a1 ∈ ax_iX1) (σ : Nat → Nat → Int) (q : (Nat → Nat → Int)) (hf : f_X10_readTask a1 σ = some q) : AM l D cA sa ad bs 788 SHp yX10_readTask cX10_readTask 6 none 8 [.ref (ad 1), .ref (ad a1)] σ none True q := by
  refine am_of (by decide +kernel) (Nat.le_of_ble_eq_true rfl) (fun p e s m args below meth c X hr => ?_)
  refine aw_lv (lv' := [(0, .ref (ad 1)), (1, .ref (ad a1))]) rfl ?_
  unfold f_X10_readTask at hf
  refine aw_aload_n X 1 dX10_readTask_0 rfl rfl ?_
  refine aw_getI X (sX1_0 a1 h_a1) fX10_128 rfl dX10_readTask_1 (fun c1 => ?_)
  refine aw_iconst X dX10_readTask_4 ?_
  refine aw_icmp_lt X (tgt := 16) c1 (z_lit (x := 4) (by decide)) dX10_readTask_5 (by decide) (fun h2 => ?_) (fun h2 => ?_)
  · rw [if_pos h2] at hf
    refine aw_aload_n X 0 dX10_readTask_16 rfl rfl ?_
    refine aw_aload_n X 1 dX10_readTask_17 rfl rfl ?_
    obtain ⟨q3, e4, hf⟩ := z_bd hf
    refine aw_callV X [.ref (ad a1)] [] [z_v q3.1] cX10_89 s_1 ciX10 (C_X10_readNewName l D cA sa ad bs a1 h_a1 σ q3 e4) rfl ⟨(Nat.le_of_ble_eq_true rfl), (Nat.le_of_ble_eq_true rfl), (Nat.le_of_ble_eq_true rfl), (Nat.le_of_ble_eq_true rfl)⟩ rfl (Nat.le_of_ble_eq_true rfl) rfl dX10_readTask_18 (fun p5 => ?_)
    refine aw_lstore_n X [(2, z_v q3.1), (0, .ref (ad 1)), (1, .ref (ad a1))] dX10_readTask_21 rfl (by decide) rfl ?_
    refine aw_aload_n X 1 dX10_readTask_22 rfl rfl ?_
    refine aw_getR X s_1 fX10_12 rfl dX10_readTask_23 ?_
    refine aw_iconst X dX10_readTask_26 ?_
    refine aw_sipush X dX10_readTask_27 (by decide) ?_
    obtain ⟨q6, e7, hf⟩ := z_bd hf
    refine aw_callV X [z_i 1, z_i 999] [] [z_i q6.1] cX10_102 s_2 ciX9 (C_X9_readNumber l D cA sa ad bs 1 (z_lit (x := 1) (by decide)) 999 (z_lit (x := 999) (by decide)) q3.2 q6 e7) rfl ⟨(Nat.le_of_ble_eq_true rfl), (Nat.le_of_ble_eq_true rfl), (Nat.le_of_ble_eq_true rfl), (Nat.le_of_ble_eq_true rfl)⟩ rfl (Nat.le_of_ble_eq_true rfl) rfl dX10_readTask_30 (fun p8 => ?_)
    refine aw_istore X [(4, z_i q6.1), (2, z_v q3.1), (0, .ref (ad 1)), (1, .ref (ad a1))] dX10_readTask_33 (by decide) rfl ?_
    refine aw_aload_n X 2 dX10_readTask_35 rfl rfl ?_
    refine aw_getR X s_1 fX10_12 rfl dX10_readTask_36 ?_
    refine aw_iconst X dX10_readTask_39 ?_
    refine aw_bipush X dX10_readTask_40 (by decide) ?_
    obtain ⟨q9, e10, hf⟩ := z_bd hf
    refine aw_callV X [z_i 1, z_i 20] [] [z_i q9.1] cX10_102 s_2 ciX9 (C_X9_readNumber l D cA sa ad bs 1 (z_lit (x := 1) (by decide)) 20 (z_lit (x := 20) (by decide)) q6.2 q9 e10) rfl ⟨(Nat.le_of_ble_eq_true rfl), (Nat.le_of_ble_eq_true rfl), (Nat.le_of_ble_eq_true rfl), (Nat.le_of_ble_eq_true rfl)⟩ rfl (Nat.le_of_ble_eq_true rfl) rfl dX10_readTask_42 (fun p11 => ?_)
    refine aw_istore X [(5, z_i q9.1), (4, z_i q6.1), (2, z_v q3.1), (0, .ref (ad 1)), (1, .ref (ad a1))] dX10_readTask_45 (by decide) rfl ?_
    refine aw_aload_n X 3 dX10_readTask_47 rfl rfl ?_
    refine aw_getR X s_1 fX10_12 rfl dX10_readTask_48 ?_
    obtain ⟨q12, e13, hf⟩ := z_bd hf
    refine aw_callV X [] [] [z_i q12] cX10_30 s_2 ciX9 (C_X9_isSound l D cA sa ad bs q9.2 q12 e13) rfl ⟨(Nat.le_of_ble_eq_true rfl), (Nat.le_of_ble_eq_true rfl), (Nat.le_of_ble_eq_true rfl), (Nat.le_of_ble_eq_true rfl)⟩ rfl (Nat.le_of_ble_eq_true rfl) rfl dX10_readTask_51 (fun p14 => ?_)
    refine aw_if_eq X (tgt := 66) (z_zI p14) dX10_readTask_54 (by decide) (fun h15 => ?_) (fun h15 => ?_)
    · rw [if_pos h15] at hf
      obtain rfl := Option.some.inj hf
      exact aw_vret X trivial hr rfl dX10_readTask_66
    · rw [if_neg h15] at hf
      refine aw_aload_n X 4 dX10_readTask_57 rfl rfl ?_
      refine aw_lload_n X 2 dX10_readTask_58 rfl rfl ?_
      refine aw_iload X 1 dX10_readTask_59 rfl ?_
      refine aw_iload X 0 dX10_readTask_61 rfl ?_
      obtain ⟨q16, e17, hf⟩ := z_bd hf
      refine aw_callV X [z_v q3.1, z_i q6.1, z_i q9.1] [] [] cX10_131 (sX1_0 a1 h_a1) ciX1 (C_X1_addTask l D cA sa ad bs a1 h_a1 q3.1 p5 q6.1 p8 q9.1 p11 q9.2 q16 e17) rfl ⟨(Nat.le_of_ble_eq_true rfl), (Nat.le_of_ble_eq_true rfl), (Nat.le_of_ble_eq_true rfl), (Nat.le_of_ble_eq_true rfl)⟩ rfl (Nat.le_of_ble_eq_true rfl) rfl dX10_readTask_63 (fun p18 => ?_)
      obtain rfl := Option.some.inj hf
      exact aw_vret X trivial hr rfl dX10_readTask_66
  · rw [if_neg h2] at hf
    refine aw_aload_n X 0 dX10_readTask_8 rfl rfl ?_
    refine aw_getR X s_1 fX10_12 rfl dX10_readTask_9 ?_
    obtain ⟨q19, e20, hf⟩ := z_bd hf
    refine aw_callV X [] [] [] cX10_62 s_2 ciX9 (C_X9_refusePart l D cA sa ad bs σ q19 e20) rfl ⟨(Nat.le_of_ble_eq_true rfl), (Nat.le_of_ble_eq_true rfl), (Nat.le_of_ble_eq_true rfl), (Nat.le_of_ble_eq_true rfl)⟩ rfl (Nat.le_of_ble_eq_true rfl) rfl dX10_readTask_12 (fun p21 => ?_)
    obtain rfl := Option.some.inj hf
    exact aw_vret X trivial hr rfl dX10_readTask_15
-- SpeedDesk$Texts.readRule(LSpeedDesk$Chip;I)V
section S_X10_readRule
variable {p : Program} {l : Launch} {e : Env} {s : State} {m : MethodId} {args : Array Value} {below : List Frame} {meth : Method} {c : Code} {D : va_G} {cA : Nat → ClassId} {sa ad : Nat → Nat} {bs : Nat} {q : (Nat → Nat → Int)}

end S_X10_readRule
set_option maxHeartbeats 4000000 in
set_option maxRecDepth 100000 in
theorem C_X10_readRule (l : Launch) (D : va_G) (cA : Nat → ClassId) (sa ad : Nat → Nat) (bs : Nat) (a1 : Nat) (h_a1 : a1 ∈ ax_iX1) (v2 : Int) (c_v2 : Z_I v2) (σ : Nat → Nat → Int) (q : (Nat → Nat → Int)) (hf : f_X10_readRule a1 v2 σ = some q) : AM l D cA sa ad bs 788 SHp yX10_readRule cX10_readRule 4 none 3 [.ref (ad 1), .ref (ad a1), z_i v2] σ none True q := by
  refine am_of (by decide +kernel) (Nat.le_of_ble_eq_true rfl) (fun p e s m args below meth c X hr => ?_)
  refine aw_lv (lv' := [(0, .ref (ad 1)), (1, .ref (ad a1)), (2, z_i v2)]) rfl ?_
  unfold f_X10_readRule at hf
  refine aw_aload_n X 1 dX10_readRule_0 rfl rfl ?_
  refine aw_getI X (sX1_0 a1 h_a1) fX10_135 rfl dX10_readRule_1 (fun c1 => ?_)
  refine aw_iload_n X 2 dX10_readRule_4 rfl rfl ?_
  obtain ⟨q2, e3, hf⟩ := z_bd hf
  refine aw_callN X [z_i (σ a1 4), z_i v2] [] [z_i q2] cX10_138 (C_X11_bitOf l D cA sa ad bs (σ a1 4) c1 v2 c_v2 σ q2 e3) rfl ⟨(Nat.le_of_ble_eq_true rfl), (Nat.le_of_ble_eq_true rfl), (Nat.le_of_ble_eq_true rfl), (Nat.le_of_ble_eq_true rfl)⟩ rfl (Nat.le_of_ble_eq_true rfl) rfl dX10_readRule_5 (fun p4 => ?_)
  refine aw_iconst X dX10_readRule_8 ?_
  refine aw_icmp_ne X (tgt := 20) p4 (z_lit (x := 1) (by decide)) dX10_readRule_9 (by decide) (fun h5 => ?_) (fun h5 => ?_)
  · rw [if_neg h5] at hf
    refine aw_aload_n X 0 dX10_readRule_20 rfl rfl ?_
    refine aw_getR X s_1 fX10_12 rfl dX10_readRule_21 ?_
    refine aw_getsN X (r := 0) rfl gX10_141 dX10_readRule_24 ?_
    refine aw_iload_n X 2 dX10_readRule_27 rfl rfl ?_
    obtain ⟨g6, hf⟩ := z_gd hf
    refine aw_sald X (r := 0) (x := ([0, 0, 1, 0, 1, 2] : List Int).getD v2.toNat 0) rfl c_v2 g6.1 g6.2 rfl dX10_readRule_28 ?_
    refine aw_getsN X (r := 1) rfl gX10_144 dX10_readRule_29 ?_
    refine aw_iload_n X 2 dX10_readRule_32 rfl rfl ?_
    obtain ⟨g7, hf⟩ := z_gd hf
    refine aw_sald X (r := 1) (x := ([100, 20, 20, 9, 9999, 16] : List Int).getD v2.toNat 0) rfl c_v2 g7.1 g7.2 rfl dX10_readRule_33 ?_
    obtain ⟨q8, e9, hf⟩ := z_bd hf
    refine aw_callV X [z_i (([0, 0, 1, 0, 1, 2] : List Int).getD v2.toNat 0), z_i (([100, 20, 20, 9, 9999, 16] : List Int).getD v2.toNat 0)] [] [z_i q8.1] cX10_102 s_2 ciX9 (C_X9_readNumber l D cA sa ad bs (([0, 0, 1, 0, 1, 2] : List Int).getD v2.toNat 0) (st_in0 _) (([100, 20, 20, 9, 9999, 16] : List Int).getD v2.toNat 0) (st_in1 _) σ q8 e9) rfl ⟨(Nat.le_of_ble_eq_true rfl), (Nat.le_of_ble_eq_true rfl), (Nat.le_of_ble_eq_true rfl), (Nat.le_of_ble_eq_true rfl)⟩ rfl (Nat.le_of_ble_eq_true rfl) rfl dX10_readRule_34 (fun p10 => ?_)
    refine aw_istore_n X [(3, z_i q8.1), (0, .ref (ad 1)), (1, .ref (ad a1)), (2, z_i v2)] dX10_readRule_37 rfl (by decide) rfl ?_
    refine aw_aload_n X 2 dX10_readRule_38 rfl rfl ?_
    refine aw_aload_n X 2 dX10_readRule_39 rfl rfl ?_
    refine aw_getI X (sX1_0 a1 h_a1) fX10_135 rfl dX10_readRule_40 (fun c11 => ?_)
    refine aw_iload_n X 3 dX10_readRule_43 rfl rfl ?_
    refine aw_iconst X dX10_readRule_44 ?_
    obtain ⟨q12, e13, hf⟩ := z_bd hf
    refine aw_callN X [z_i (q8.2 a1 4), z_i v2, z_i 1] [.ref (ad a1)] [z_i q12, .ref (ad a1)] cX10_147 (C_X11_withBit l D cA sa ad bs (q8.2 a1 4) c11 v2 c_v2 1 (z_lit (x := 1) (by decide)) q8.2 q12 e13) rfl ⟨(Nat.le_of_ble_eq_true rfl), (Nat.le_of_ble_eq_true rfl), (Nat.le_of_ble_eq_true rfl), (Nat.le_of_ble_eq_true rfl)⟩ rfl (Nat.le_of_ble_eq_true rfl) rfl dX10_readRule_45 (fun p14 => ?_)
    refine aw_putI X (sX1_0 a1 h_a1) pX10_135 rfl p14 dX10_readRule_48 ?_
    refine aw_aload_n X 2 dX10_readRule_51 rfl rfl ?_
    refine aw_getR X (sX1_0 a1 h_a1) fX10_151 rfl dX10_readRule_52 ?_
    refine aw_iload_n X 3 dX10_readRule_55 rfl rfl ?_
    refine aw_iload_n X 0 dX10_readRule_56 rfl rfl ?_
    obtain ⟨g15, hf⟩ := z_gd hf
    refine aw_iast X (j := v2.toNat) (sX1_18 a1 h_a1) c_v2 g15.1 g15.2 rfl p10 dX10_readRule_57 ?_
    obtain rfl := Option.some.inj hf
    exact aw_vret X trivial hr rfl dX10_readRule_58
  · rw [if_pos h5] at hf
    refine aw_aload_n X 0 dX10_readRule_12 rfl rfl ?_
    refine aw_getR X s_1 fX10_12 rfl dX10_readRule_13 ?_
    obtain ⟨q16, e17, hf⟩ := z_bd hf
    refine aw_callV X [] [] [] cX10_62 s_2 ciX9 (C_X9_refusePart l D cA sa ad bs σ q16 e17) rfl ⟨(Nat.le_of_ble_eq_true rfl), (Nat.le_of_ble_eq_true rfl), (Nat.le_of_ble_eq_true rfl), (Nat.le_of_ble_eq_true rfl)⟩ rfl (Nat.le_of_ble_eq_true rfl) rfl dX10_readRule_16 (fun p18 => ?_)
    obtain rfl := Option.some.inj hf
    exact aw_vret X trivial hr rfl dX10_readRule_19
-- SpeedDesk$Texts.readLine(LSpeedDesk$Chip;)V
section S_X10_readLine
variable {p : Program} {l : Launch} {e : Env} {s : State} {m : MethodId} {args : Array Value} {below : List Frame} {meth : Method} {c : Code} {D : va_G} {cA : Nat → ClassId} {sa ad : Nat → Nat} {bs : Nat} {q : (Nat → Nat → Int)}
set_option maxHeartbeats 4000000 in
set_option maxRecDepth 100000 in
theorem A_X10_readLine_71 (X : AX p s m args meth c D cA sa bs cX10_readLine 3 RX10) (hr : meth.sig.returnType = none)  (σ : Nat → Nat → Int) (hf : f_X10_readLine_71 σ = some q) : AW p l e (ax_rm 9 0 0) s m args below meth c D cA ad bs 788 SHp 0 0 (ax_MQ below args s D cA ad bs 788 SHp 0 0 none True q) 3 71 [(0, .ref (ad 1))] [] σ := by
  unfold f_X10_readLine_71 at hf
  refine aw_aload_n X 0 dX10_readLine_71 rfl rfl ?_
  refine aw_getR X s_1 fX10_12 rfl dX10_readLine_72 ?_
  obtain ⟨q24, e25, hf⟩ := z_bd hf
  refine aw_callV X [] [] [] cX10_62 s_2 ciX9 (C_X9_refusePart l D cA sa ad bs σ q24 e25) rfl ⟨(Nat.le_of_ble_eq_true rfl), (Nat.le_of_ble_eq_true rfl), (Nat.le_of_ble_eq_true rfl), (Nat.le_of_ble_eq_true rfl)⟩ rfl (Nat.le_of_ble_eq_true rfl) rfl dX10_readLine_75 (fun p26 => ?_)
  obtain rfl := Option.some.inj hf
  exact aw_vret X trivial hr rfl dX10_readLine_78
end S_X10_readLine
set_option maxHeartbeats 4000000 in
set_option maxRecDepth 100000 in
theorem C_X10_readLine (l : Launch) (D : va_G) (cA : Nat → ClassId) (sa ad : Nat → Nat) (bs : Nat) (a1 : Nat) (h_a1 : a1 ∈ ax_iX1) (σ : Nat → Nat → Int) (q : (Nat → Nat → Int)) (hf : f_X10_readLine a1 σ = some q) : AM l D cA sa ad bs 788 SHp yX10_readLine cX10_readLine 3 none 9 [.ref (ad 1), .ref (ad a1)] σ none True q := by
  refine am_of (by decide +kernel) (Nat.le_of_ble_eq_true rfl) (fun p e s m args below meth c X hr => ?_)
  refine aw_lv (lv' := [(0, .ref (ad 1)), (1, .ref (ad a1))]) rfl ?_
  unfold f_X10_readLine at hf
  refine aw_aload_n X 0 dX10_readLine_0 rfl rfl ?_
  refine aw_getR X s_1 fX10_12 rfl dX10_readLine_1 ?_
  obtain ⟨q1, e2, hf⟩ := z_bd hf
  refine aw_callV X [] [] [z_v q1.1] cX10_65 s_2 ciX9 (C_X9_readWord l D cA sa ad bs σ q1 e2) rfl ⟨(Nat.le_of_ble_eq_true rfl), (Nat.le_of_ble_eq_true rfl), (Nat.le_of_ble_eq_true rfl), (Nat.le_of_ble_eq_true rfl)⟩ rfl (Nat.le_of_ble_eq_true rfl) rfl dX10_readLine_4 (fun p3 => ?_)
  obtain ⟨q4, e5, hf⟩ := z_bd hf
  refine aw_callS X [z_v q1.1] [] [z_i q4] cX10_69 (C_X10_wordNumber l D cA sa ad bs q1.1 p3 q1.2 q4 e5) rfl ⟨(Nat.le_of_ble_eq_true rfl), (Nat.le_of_ble_eq_true rfl), (Nat.le_of_ble_eq_true rfl), (Nat.le_of_ble_eq_true rfl)⟩ rfl (Nat.le_of_ble_eq_true rfl) rfl dX10_readLine_7 (fun p6 => ?_)
  refine aw_istore_n X [(2, z_i q4), (0, .ref (ad 1)), (1, .ref (ad a1))] dX10_readLine_10 rfl (by decide) rfl ?_
  refine aw_iload_n X 0 dX10_readLine_11 rfl rfl ?_
  refine aw_if_ne X (tgt := 23) p6 dX10_readLine_12 (by decide) (fun h7 => ?_) (fun h7 => ?_)
  · rw [if_neg h7] at hf
    refine aw_iload_n X 0 dX10_readLine_23 rfl rfl ?_
    refine aw_iconst X dX10_readLine_24 ?_
    refine aw_icmp_ne X (tgt := 36) p6 (z_lit (x := 1) (by decide)) dX10_readLine_25 (by decide) (fun h8 => ?_) (fun h8 => ?_)
    · rw [if_neg h8] at hf
      refine aw_iload_n X 0 dX10_readLine_36 rfl rfl ?_
      refine aw_iconst X dX10_readLine_37 ?_
      refine aw_icmp_ne X (tgt := 49) p6 (z_lit (x := 2) (by decide)) dX10_readLine_38 (by decide) (fun h9 => ?_) (fun h9 => ?_)
      · rw [if_neg h9] at hf
        refine aw_iload_n X 0 dX10_readLine_49 rfl rfl ?_
        refine aw_iconst X dX10_readLine_50 ?_
        refine aw_icmp_lt X (tgt := 71) p6 (z_lit (x := 3) (by decide)) dX10_readLine_51 (by decide) (fun h10 => ?_) (fun h10 => ?_)
        · rw [if_pos h10] at hf
          refine aw_sub [1] rfl ?_
          exact A_X10_readLine_71 X hr q1.2 hf
        · rw [if_neg h10] at hf
          refine aw_iload_n X 0 dX10_readLine_54 rfl rfl ?_
          refine aw_bipush X dX10_readLine_55 (by decide) ?_
          refine aw_icmp_ge X (tgt := 71) p6 (z_lit (x := 9) (by decide)) dX10_readLine_57 (by decide) (fun h11 => ?_) (fun h11 => ?_)
          · rw [if_pos h11] at hf
            refine aw_sub [1] rfl ?_
            exact A_X10_readLine_71 X hr q1.2 hf
          · rw [if_neg h11] at hf
            refine aw_aload_n X 1 dX10_readLine_60 rfl rfl ?_
            refine aw_aload_n X 2 dX10_readLine_61 rfl rfl ?_
            refine aw_iload_n X 0 dX10_readLine_62 rfl rfl ?_
            refine aw_iconst X dX10_readLine_63 ?_
            refine aw_isub X dX10_readLine_64 ?_
            obtain ⟨q12, e13, hf⟩ := z_bd hf
            refine aw_callV X [.ref (ad a1), z_i (z_w (q4 - 3))] [] [] cX10_82 s_1 ciX10 (C_X10_readRule l D cA sa ad bs a1 h_a1 (z_w (q4 - 3)) (z_w_in _) q1.2 q12 e13) rfl ⟨(Nat.le_of_ble_eq_true rfl), (Nat.le_of_ble_eq_true rfl), (Nat.le_of_ble_eq_true rfl), (Nat.le_of_ble_eq_true rfl)⟩ rfl (Nat.le_of_ble_eq_true rfl) rfl dX10_readLine_65 (fun p14 => ?_)
            refine aw_goto X (tgt := 78) dX10_readLine_68 (by decide) ?_
            obtain rfl := Option.some.inj hf
            exact aw_vret X trivial hr rfl dX10_readLine_78
      · rw [if_pos h9] at hf
        refine aw_aload_n X 1 dX10_readLine_41 rfl rfl ?_
        refine aw_aload_n X 2 dX10_readLine_42 rfl rfl ?_
        obtain ⟨q15, e16, hf⟩ := z_bd hf
        refine aw_callV X [.ref (ad a1)] [] [] cX10_79 s_1 ciX10 (C_X10_readTask l D cA sa ad bs a1 h_a1 q1.2 q15 e16) rfl ⟨(Nat.le_of_ble_eq_true rfl), (Nat.le_of_ble_eq_true rfl), (Nat.le_of_ble_eq_true rfl), (Nat.le_of_ble_eq_true rfl)⟩ rfl (Nat.le_of_ble_eq_true rfl) rfl dX10_readLine_43 (fun p17 => ?_)
        refine aw_goto X (tgt := 78) dX10_readLine_46 (by decide) ?_
        obtain rfl := Option.some.inj hf
        exact aw_vret X trivial hr rfl dX10_readLine_78
    · rw [if_pos h8] at hf
      refine aw_aload_n X 1 dX10_readLine_28 rfl rfl ?_
      refine aw_aload_n X 2 dX10_readLine_29 rfl rfl ?_
      obtain ⟨q18, e19, hf⟩ := z_bd hf
      refine aw_callV X [.ref (ad a1)] [] [] cX10_76 s_1 ciX10 (C_X10_readPoint l D cA sa ad bs a1 h_a1 q1.2 q18 e19) rfl ⟨(Nat.le_of_ble_eq_true rfl), (Nat.le_of_ble_eq_true rfl), (Nat.le_of_ble_eq_true rfl), (Nat.le_of_ble_eq_true rfl)⟩ rfl (Nat.le_of_ble_eq_true rfl) rfl dX10_readLine_30 (fun p20 => ?_)
      refine aw_goto X (tgt := 78) dX10_readLine_33 (by decide) ?_
      obtain rfl := Option.some.inj hf
      exact aw_vret X trivial hr rfl dX10_readLine_78
  · rw [if_pos h7] at hf
    refine aw_aload_n X 1 dX10_readLine_15 rfl rfl ?_
    refine aw_aload_n X 2 dX10_readLine_16 rfl rfl ?_
    obtain ⟨q21, e22, hf⟩ := z_bd hf
    refine aw_callV X [.ref (ad a1)] [] [] cX10_73 s_1 ciX10 (C_X10_readCluster l D cA sa ad bs a1 h_a1 q1.2 q21 e22) rfl ⟨(Nat.le_of_ble_eq_true rfl), (Nat.le_of_ble_eq_true rfl), (Nat.le_of_ble_eq_true rfl), (Nat.le_of_ble_eq_true rfl)⟩ rfl (Nat.le_of_ble_eq_true rfl) rfl dX10_readLine_17 (fun p23 => ?_)
    refine aw_goto X (tgt := 78) dX10_readLine_20 (by decide) ?_
    obtain rfl := Option.some.inj hf
    exact aw_vret X trivial hr rfl dX10_readLine_78
-- SpeedDesk$Texts.readChip(LSpeedDesk$Chip;)I
section S_X10_readChip
variable {p : Program} {l : Launch} {e : Env} {s : State} {m : MethodId} {args : Array Value} {below : List Frame} {meth : Method} {c : Code} {D : va_G} {cA : Nat → ClassId} {sa ad : Nat → Nat} {bs : Nat} {q : (Int × (Nat → Nat → Int))}
set_option maxHeartbeats 4000000 in
set_option maxRecDepth 100000 in
theorem A_X10_readChip_63 (X : AX p s m args meth c D cA sa bs cX10_readChip 4 RX10) (hr : meth.sig.returnType = (some .int)) (a1 : Nat) (h_a1 : a1 ∈ ax_iX1) (σ : Nat → Nat → Int) (hf : f_X10_readChip_63 a1 σ = some q) : AW p l e (ax_rm 10 0 0) s m args below meth c D cA ad bs 788 SHp 0 0 (ax_MQ below args s D cA ad bs 788 SHp 0 0 (some (z_i q.1)) (Z_I q.1) q.2) 4 63 [(0, .ref (ad 1)), (1, .ref (ad a1))] [] σ := by
  unfold f_X10_readChip_63 at hf
  refine aw_aload_n X 1 dX10_readChip_63 rfl rfl ?_
  obtain ⟨q20, e21, hf⟩ := z_bd hf
  refine aw_callV X [] [] [z_i q20] cX10_37 (sX1_0 a1 h_a1) ciX1 (C_X1_isWhole l D cA sa ad bs a1 h_a1 σ q20 e21) rfl ⟨(Nat.le_of_ble_eq_true rfl), (Nat.le_of_ble_eq_true rfl), (Nat.le_of_ble_eq_true rfl), (Nat.le_of_ble_eq_true rfl)⟩ rfl (Nat.le_of_ble_eq_true rfl) rfl dX10_readChip_64 (fun p22 => ?_)
  refine aw_if_ne X (tgt := 84) (z_zI p22) dX10_readChip_67 (by decide) (fun h23 => ?_) (fun h23 => ?_)
  · rw [if_neg h23] at hf
    refine aw_aload_n X 0 dX10_readChip_84 rfl rfl ?_
    refine aw_getR X s_1 fX10_12 rfl dX10_readChip_85 ?_
    refine aw_getI X s_2 fX10_48 rfl dX10_readChip_88 (fun c24 => ?_)
    obtain rfl := Option.some.inj hf
    exact aw_iret X c24 hr rfl dX10_readChip_91
  · rw [if_pos h23] at hf
    refine aw_aload_n X 0 dX10_readChip_70 rfl rfl ?_
    refine aw_getR X s_1 fX10_12 rfl dX10_readChip_71 ?_
    refine aw_aload_n X 0 dX10_readChip_74 rfl rfl ?_
    refine aw_getR X s_1 fX10_12 rfl dX10_readChip_75 ?_
    refine aw_getI X s_2 fX10_40 rfl dX10_readChip_78 (fun c25 => ?_)
    obtain ⟨q26, e27, hf⟩ := z_bd hf
    refine aw_callV X [z_i (σ 2 1)] [] [] cX10_44 s_2 ciX9 (C_X9_refuse l D cA sa ad bs (σ 2 1) c25 σ q26 e27) rfl ⟨(Nat.le_of_ble_eq_true rfl), (Nat.le_of_ble_eq_true rfl), (Nat.le_of_ble_eq_true rfl), (Nat.le_of_ble_eq_true rfl)⟩ rfl (Nat.le_of_ble_eq_true rfl) rfl dX10_readChip_81 (fun p28 => ?_)
    refine aw_aload_n X 0 dX10_readChip_84 rfl rfl ?_
    refine aw_getR X s_1 fX10_12 rfl dX10_readChip_85 ?_
    refine aw_getI X s_2 fX10_48 rfl dX10_readChip_88 (fun c29 => ?_)
    obtain rfl := Option.some.inj hf
    exact aw_iret X c29 hr rfl dX10_readChip_91
set_option maxHeartbeats 4000000 in
set_option maxRecDepth 100000 in
theorem A_X10_readChip_15 (X : AX p s m args meth c D cA sa bs cX10_readChip 4 RX10) (hr : meth.sig.returnType = (some .int)) : ∀ (k : Nat) (a1 : Nat) (h_a1 : a1 ∈ ax_iX1) (v2 : Int) (c_v2 : Z_I v2) (v3 : Int) (c_v3 : Z_I v3) (σ : Nat → Nat → Int), f_X10_readChip_15 k a1 v2 v3 σ = some q → AW p l e (ax_rm 10 0 0) s m args below meth c D cA ad bs 788 SHp 0 0 (ax_MQ below args s D cA ad bs 788 SHp 0 0 (some (z_i q.1)) (Z_I q.1) q.2) 4 15 [(0, .ref (ad 1)), (1, .ref (ad a1)), (2, z_i v2), (3, z_i v3)] [] σ := by
  intro k
  induction k with
  | zero =>
    intro a1 h_a1 v2 c_v2 v3 c_v3 σ hf
    unfold f_X10_readChip_15 at hf
    cases hf
  | succ k ih =>
    intro a1 h_a1 v2 c_v2 v3 c_v3 σ hf
    unfold f_X10_readChip_15 at hf
    refine aw_iload_n X 2 dX10_readChip_15 rfl rfl ?_
    refine aw_if_eq X (tgt := 63) c_v2 dX10_readChip_16 (by decide) (fun h7 => ?_) (fun h7 => ?_)
    · rw [if_pos h7] at hf
      refine aw_sub [0, 1] rfl ?_
      exact A_X10_readChip_63 X hr a1 h_a1 σ hf
    · rw [if_neg h7] at hf
      refine aw_iload_n X 3 dX10_readChip_19 rfl rfl ?_
      refine aw_sipush X dX10_readChip_20 (by decide) ?_
      refine aw_icmp_gt X (tgt := 63) c_v3 (z_lit (x := 320) (by decide)) dX10_readChip_23 (by decide) (fun h8 => ?_) (fun h8 => ?_)
      · rw [if_pos h8] at hf
        refine aw_sub [0, 1] rfl ?_
        exact A_X10_readChip_63 X hr a1 h_a1 σ hf
      · rw [if_neg h8] at hf
        refine aw_aload_n X 0 dX10_readChip_26 rfl rfl ?_
        refine aw_aload_n X 1 dX10_readChip_27 rfl rfl ?_
        obtain ⟨q9, e10, hf⟩ := z_bd hf
        refine aw_callV X [.ref (ad a1)] [] [] cX10_26 s_1 ciX10 (C_X10_readLine l D cA sa ad bs a1 h_a1 σ q9 e10) rfl ⟨(Nat.le_of_ble_eq_true rfl), (Nat.le_of_ble_eq_true rfl), (Nat.le_of_ble_eq_true rfl), (Nat.le_of_ble_eq_true rfl)⟩ rfl (Nat.le_of_ble_eq_true rfl) rfl dX10_readChip_28 (fun p11 => ?_)
        refine aw_aload_n X 0 dX10_readChip_31 rfl rfl ?_
        refine aw_getR X s_1 fX10_12 rfl dX10_readChip_32 ?_
        obtain ⟨q12, e13, hf⟩ := z_bd hf
        refine aw_callV X [] [] [z_i q12] cX10_30 s_2 ciX9 (C_X9_isSound l D cA sa ad bs q9 q12 e13) rfl ⟨(Nat.le_of_ble_eq_true rfl), (Nat.le_of_ble_eq_true rfl), (Nat.le_of_ble_eq_true rfl), (Nat.le_of_ble_eq_true rfl)⟩ rfl (Nat.le_of_ble_eq_true rfl) rfl dX10_readChip_35 (fun p14 => ?_)
        refine aw_if_eq X (tgt := 55) (z_zI p14) dX10_readChip_38 (by decide) (fun h15 => ?_) (fun h15 => ?_)
        · rw [if_pos h15] at hf
          refine aw_iconst X dX10_readChip_55 ?_
          refine aw_istore_n X [(2, z_i 0), (0, .ref (ad 1)), (1, .ref (ad a1)), (3, z_i v3)] dX10_readChip_56 rfl (by decide) rfl ?_
          refine aw_iinc X 3 [(3, z_i (z_w (v3 + 1))), (2, z_i 0), (0, .ref (ad 1)), (1, .ref (ad a1))] dX10_readChip_57 rfl (by decide) rfl ?_
          refine aw_goto X (tgt := 15) dX10_readChip_60 (by decide) ?_
          refine aw_sub [2, 3, 1, 0] rfl ?_
          exact ih a1 h_a1 0 (z_lit (x := 0) (by decide)) (z_w (v3 + 1)) (z_w_in _) q9 hf
        · rw [if_neg h15] at hf
          refine aw_aload_n X 0 dX10_readChip_41 rfl rfl ?_
          refine aw_getR X s_1 fX10_12 rfl dX10_readChip_42 ?_
          obtain ⟨q16, e17, hf⟩ := z_bd hf
          refine aw_callV X [] [] [z_i q16.1] cX10_34 s_2 ciX9 (C_X9_readSemicolon l D cA sa ad bs q9 q16 e17) rfl ⟨(Nat.le_of_ble_eq_true rfl), (Nat.le_of_ble_eq_true rfl), (Nat.le_of_ble_eq_true rfl), (Nat.le_of_ble_eq_true rfl)⟩ rfl (Nat.le_of_ble_eq_true rfl) rfl dX10_readChip_45 (fun p18 => ?_)
          refine aw_if_eq X (tgt := 55) (z_zI p18) dX10_readChip_48 (by decide) (fun h19 => ?_) (fun h19 => ?_)
          · simp only [if_pos h19] at hf
            refine aw_iconst X dX10_readChip_55 ?_
            refine aw_istore_n X [(2, z_i 0), (0, .ref (ad 1)), (1, .ref (ad a1)), (3, z_i v3)] dX10_readChip_56 rfl (by decide) rfl ?_
            refine aw_iinc X 3 [(3, z_i (z_w (v3 + 1))), (2, z_i 0), (0, .ref (ad 1)), (1, .ref (ad a1))] dX10_readChip_57 rfl (by decide) rfl ?_
            refine aw_goto X (tgt := 15) dX10_readChip_60 (by decide) ?_
            refine aw_sub [2, 3, 1, 0] rfl ?_
            exact ih a1 h_a1 0 (z_lit (x := 0) (by decide)) (z_w (v3 + 1)) (z_w_in _) q16.2 hf
          · simp only [if_neg h19] at hf
            refine aw_iconst X dX10_readChip_51 ?_
            refine aw_goto X (tgt := 56) dX10_readChip_52 (by decide) ?_
            refine aw_istore_n X [(2, z_i 1), (0, .ref (ad 1)), (1, .ref (ad a1)), (3, z_i v3)] dX10_readChip_56 rfl (by decide) rfl ?_
            refine aw_iinc X 3 [(3, z_i (z_w (v3 + 1))), (2, z_i 1), (0, .ref (ad 1)), (1, .ref (ad a1))] dX10_readChip_57 rfl (by decide) rfl ?_
            refine aw_goto X (tgt := 15) dX10_readChip_60 (by decide) ?_
            refine aw_sub [2, 3, 1, 0] rfl ?_
            exact ih a1 h_a1 1 (z_lit (x := 1) (by decide)) (z_w (v3 + 1)) (z_w_in _) q16.2 hf
end S_X10_readChip
set_option maxHeartbeats 4000000 in
set_option maxRecDepth 100000 in
theorem C_X10_readChip (l : Launch) (D : va_G) (cA : Nat → ClassId) (sa ad : Nat → Nat) (bs : Nat) (a1 : Nat) (h_a1 : a1 ∈ ax_iX1) (σ : Nat → Nat → Int) (q : (Int × (Nat → Nat → Int))) (hf : f_X10_readChip a1 σ = some q) : AM l D cA sa ad bs 788 SHp yX10_readChip cX10_readChip 4 (some .int) 10 [.ref (ad 1), .ref (ad a1)] σ (some (z_i q.1)) (Z_I q.1) q.2 := by
  refine am_of (by decide +kernel) (Nat.le_of_ble_eq_true rfl) (fun p e s m args below meth c X hr => ?_)
  refine aw_lv (lv' := [(0, .ref (ad 1)), (1, .ref (ad a1))]) rfl ?_
  unfold f_X10_readChip at hf
  refine aw_aload_n X 0 dX10_readChip_0 rfl rfl ?_
  refine aw_getR X s_1 fX10_12 rfl dX10_readChip_1 ?_
  obtain ⟨q1, e2, hf⟩ := z_bd hf
  refine aw_callV X [] [] [] cX10_18 s_2 ciX9 (C_X9_rewind l D cA sa ad bs σ q1 e2) rfl ⟨(Nat.le_of_ble_eq_true rfl), (Nat.le_of_ble_eq_true rfl), (Nat.le_of_ble_eq_true rfl), (Nat.le_of_ble_eq_true rfl)⟩ rfl (Nat.le_of_ble_eq_true rfl) rfl dX10_readChip_4 (fun p3 => ?_)
  refine aw_aload_n X 1 dX10_readChip_7 rfl rfl ?_
  obtain ⟨q4, e5, hf⟩ := z_bd hf
  refine aw_callV X [] [] [] cX10_21 (sX1_0 a1 h_a1) ciX1 (C_X1_begin l D cA sa ad bs a1 h_a1 q1 q4 e5) rfl ⟨(Nat.le_of_ble_eq_true rfl), (Nat.le_of_ble_eq_true rfl), (Nat.le_of_ble_eq_true rfl), (Nat.le_of_ble_eq_true rfl)⟩ rfl (Nat.le_of_ble_eq_true rfl) rfl dX10_readChip_8 (fun p6 => ?_)
  refine aw_iconst X dX10_readChip_11 ?_
  refine aw_istore_n X [(2, z_i 1), (0, .ref (ad 1)), (1, .ref (ad a1))] dX10_readChip_12 rfl (by decide) rfl ?_
  refine aw_iconst X dX10_readChip_13 ?_
  refine aw_istore_n X [(3, z_i 0), (2, z_i 1), (0, .ref (ad 1)), (1, .ref (ad a1))] dX10_readChip_14 rfl (by decide) rfl ?_
  refine aw_sub [2, 3, 1, 0] rfl ?_
  exact A_X10_readChip_15 X hr 100000 a1 h_a1 1 (z_lit (x := 1) (by decide)) 0 (z_lit (x := 0) (by decide)) q4 hf
