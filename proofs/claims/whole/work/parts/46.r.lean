-- SpeedDeskModel.spotOf([JIJ)I
section S_X12_spotOf
variable {p : Program} {l : Launch} {e : Env} {s : State} {m : MethodId} {args : Array Value} {below : List Frame} {meth : Method} {c : Code} {D : va_G} {cA : Nat → ClassId} {sa ad : Nat → Nat} {bs : Nat} {q : Int}
set_option maxHeartbeats 4000000 in
set_option maxRecDepth 100000 in
theorem A_X12_spotOf_3 (X : AX p s m args meth c D cA sa bs cX12_spotOf 5 RX12) (hr : meth.sig.returnType = (some .int)) (σ : Nat → Nat → Int) : ∀ (k : Nat) (a0 : Nat) (n_a0 : Nat) (h_a0 : a0 < 788 ∧ SHp a0 = .inr (1, n_a0, [])) (v1 : Int) (c_v1 : Z_I v1) (v2 : Int) (c_v2 : Z_L v2) (v4 : Int) (c_v4 : Z_I v4), f_X12_spotOf_3 k a0 n_a0 v1 v2 v4 σ = some q → AW p l e (ax_rm 0 0 0) s m args below meth c D cA ad bs 788 SHp 0 0 (ax_MQ below args s D cA ad bs 788 SHp 0 0 (some (z_i q)) (Z_I q) σ) 5 3 [(0, .ref (ad a0)), (1, z_i v1), (2, z_v v2), (4, z_i v4)] [] σ := by
  intro k
  induction k with
  | zero =>
    intro a0 n_a0 h_a0 v1 c_v1 v2 c_v2 v4 c_v4 hf
    unfold f_X12_spotOf_3 at hf
    cases hf
  | succ k ih =>
    intro a0 n_a0 h_a0 v1 c_v1 v2 c_v2 v4 c_v4 hf
    unfold f_X12_spotOf_3 at hf
    refine aw_iload X 3 dX12_spotOf_3 rfl ?_
    refine aw_iload_n X 1 dX12_spotOf_5 rfl rfl ?_
    refine aw_icmp_ge X (tgt := 27) c_v4 c_v1 dX12_spotOf_6 (by decide) (fun h1 => ?_) (fun h1 => ?_)
    · rw [if_pos h1] at hf
      refine aw_iconst X dX12_spotOf_27 ?_
      obtain rfl := Option.some.inj hf
      exact aw_iret X (z_lit (x := (-1)) (by decide)) hr rfl dX12_spotOf_28
    · rw [if_neg h1] at hf
      refine aw_aload_n X 0 dX12_spotOf_9 rfl rfl ?_
      refine aw_iload X 3 dX12_spotOf_10 rfl ?_
      obtain ⟨g2, hf⟩ := z_gd hf
      refine aw_lald X (j := v4.toNat) h_a0 c_v4 g2.1 g2.2 rfl dX12_spotOf_12 (fun c3 => ?_)
      refine aw_lload_n X 2 dX12_spotOf_13 rfl rfl ?_
      refine aw_lcmp X c3 c_v2 dX12_spotOf_14 ?_
      refine aw_if_ne X (tgt := 21) (z_cmp_in _ _) dX12_spotOf_15 (by decide) (fun h4 => ?_) (fun h4 => ?_)
      · rw [if_neg h4] at hf
        refine aw_iinc X 3 [(4, z_i (z_w (v4 + 1))), (0, .ref (ad a0)), (1, z_i v1), (2, z_v v2)] dX12_spotOf_21 rfl (by decide) rfl ?_
        refine aw_goto X (tgt := 3) dX12_spotOf_24 (by decide) ?_
        refine aw_sub [1, 2, 3, 0] rfl ?_
        exact ih a0 n_a0 h_a0 v1 c_v1 v2 c_v2 (z_w (v4 + 1)) (z_w_in _) hf
      · rw [if_pos h4] at hf
        refine aw_iload X 3 dX12_spotOf_18 rfl ?_
        obtain rfl := Option.some.inj hf
        exact aw_iret X c_v4 hr rfl dX12_spotOf_20
end S_X12_spotOf
set_option maxHeartbeats 4000000 in
set_option maxRecDepth 100000 in
theorem C_X12_spotOf (l : Launch) (D : va_G) (cA : Nat → ClassId) (sa ad : Nat → Nat) (bs : Nat) (a0 : Nat) (n_a0 : Nat) (h_a0 : a0 < 788 ∧ SHp a0 = .inr (1, n_a0, [])) (v1 : Int) (c_v1 : Z_I v1) (v2 : Int) (c_v2 : Z_L v2) (σ : Nat → Nat → Int) (q : Int) (hf : f_X12_spotOf a0 n_a0 v1 v2 σ = some q) : AM l D cA sa ad bs 788 SHp yX12_spotOf cX12_spotOf 5 (some .int) 0 [.ref (ad a0), z_i v1, z_v v2] σ (some (z_i q)) (Z_I q) σ := by
  refine am_of (by decide +kernel) (Nat.le_of_ble_eq_true rfl) (fun p e s m args below meth c X hr => ?_)
  refine aw_lv (lv' := [(0, .ref (ad a0)), (1, z_i v1), (2, z_v v2)]) rfl ?_
  unfold f_X12_spotOf at hf
  refine aw_iconst X dX12_spotOf_0 ?_
  refine aw_istore X [(4, z_i 0), (0, .ref (ad a0)), (1, z_i v1), (2, z_v v2)] dX12_spotOf_1 (by decide) rfl ?_
  refine aw_sub [1, 2, 3, 0] rfl ?_
  exact A_X12_spotOf_3 X hr σ 100000 a0 n_a0 h_a0 v1 c_v1 v2 c_v2 0 (z_lit (x := 0) (by decide)) hf
-- SpeedDeskModel.freshName()V
section S_X12_freshName
variable {p : Program} {l : Launch} {e : Env} {s : State} {m : MethodId} {args : Array Value} {below : List Frame} {meth : Method} {c : Code} {D : va_G} {cA : Nat → ClassId} {sa ad : Nat → Nat} {bs : Nat} {q : (Nat → Nat → Int)}
set_option maxHeartbeats 4000000 in
set_option maxRecDepth 100000 in
theorem A_X12_freshName_61 (X : AX p s m args meth c D cA sa bs cX12_freshName 1 RX12) (hr : meth.sig.returnType = none)  (σ : Nat → Nat → Int) (hf : f_X12_freshName_61 σ = some q) : AW p l e (ax_rm 7 0 0) s m args below meth c D cA ad bs 788 SHp 0 0 (ax_MQ below args s D cA ad bs 788 SHp 0 0 none True q) 1 61 [(0, .ref (ad 758))] [] σ := by
  unfold f_X12_freshName_61 at hf
  refine aw_aload_n X 0 dX12_freshName_61 rfl rfl ?_
  refine aw_aload_n X 0 dX12_freshName_62 rfl rfl ?_
  refine aw_getI X s_758 fX12_136 rfl dX12_freshName_63 (fun c23 => ?_)
  obtain ⟨q24, e25, hf⟩ := z_bd hf
  refine aw_callV X [z_i (σ 758 5)] [] [] cX12_147 s_758 ciX12 (C_X12_fails l D cA sa ad bs (σ 758 5) c23 σ q24 e25) rfl ⟨(Nat.le_of_ble_eq_true rfl), (Nat.le_of_ble_eq_true rfl), (Nat.le_of_ble_eq_true rfl), (Nat.le_of_ble_eq_true rfl)⟩ rfl (Nat.le_of_ble_eq_true rfl) rfl dX12_freshName_66 (fun p26 => ?_)
  obtain rfl := Option.some.inj hf
  exact aw_vret X trivial hr rfl dX12_freshName_69
end S_X12_freshName
set_option maxHeartbeats 4000000 in
set_option maxRecDepth 100000 in
theorem C_X12_freshName (l : Launch) (D : va_G) (cA : Nat → ClassId) (sa ad : Nat → Nat) (bs : Nat)  (σ : Nat → Nat → Int) (q : (Nat → Nat → Int)) (hf : f_X12_freshName σ = some q) : AM l D cA sa ad bs 788 SHp yX12_freshName cX12_freshName 1 none 7 [.ref (ad 758)] σ none True q := by
  refine am_of (by decide +kernel) (Nat.le_of_ble_eq_true rfl) (fun p e s m args below meth c X hr => ?_)
  refine aw_lv (lv' := [(0, .ref (ad 758))]) rfl ?_
  unfold f_X12_freshName at hf
  refine aw_aload_n X 0 dX12_freshName_0 rfl rfl ?_
  obtain ⟨q1, e2, hf⟩ := z_bd hf
  refine aw_callV X [] [] [] cX12_160 s_758 ciX12 (C_X12_word l D cA sa ad bs σ q1 e2) rfl ⟨(Nat.le_of_ble_eq_true rfl), (Nat.le_of_ble_eq_true rfl), (Nat.le_of_ble_eq_true rfl), (Nat.le_of_ble_eq_true rfl)⟩ rfl (Nat.le_of_ble_eq_true rfl) rfl dX12_freshName_1 (fun p3 => ?_)
  refine aw_aload_n X 0 dX12_freshName_4 rfl rfl ?_
  refine aw_getI X s_758 fX12_122 rfl dX12_freshName_5 (fun c4 => ?_)
  refine aw_iconst X dX12_freshName_8 ?_
  refine aw_icmp_ne X (tgt := 69) c4 (z_lit (x := (-1)) (by decide)) dX12_freshName_9 (by decide) (fun h5 => ?_) (fun h5 => ?_)
  · rw [if_neg h5] at hf
    obtain rfl := Option.some.inj hf
    exact aw_vret X trivial hr rfl dX12_freshName_69
  · rw [if_pos h5] at hf
    refine aw_aload_n X 0 dX12_freshName_12 rfl rfl ?_
    refine aw_getL X s_758 fX12_139 rfl dX12_freshName_13 (fun c6 => ?_)
    obtain ⟨q7, e8, hf⟩ := z_bd hf
    refine aw_callS X [z_v (q1 758 6)] [] [z_i q7] cX12_162 (C_X12_known l D cA sa ad bs (q1 758 6) c6 q1 q7 e8) rfl ⟨(Nat.le_of_ble_eq_true rfl), (Nat.le_of_ble_eq_true rfl), (Nat.le_of_ble_eq_true rfl), (Nat.le_of_ble_eq_true rfl)⟩ rfl (Nat.le_of_ble_eq_true rfl) rfl dX12_freshName_16 (fun p9 => ?_)
    refine aw_iconst X dX12_freshName_19 ?_
    refine aw_icmp_ne X (tgt := 61) p9 (z_lit (x := (-1)) (by decide)) dX12_freshName_20 (by decide) (fun h10 => ?_) (fun h10 => ?_)
    · rw [if_neg h10] at hf
      exact A_X12_freshName_61 X hr q1 hf
    · rw [if_pos h10] at hf
      refine aw_aload_n X 0 dX12_freshName_23 rfl rfl ?_
      refine aw_getR X s_758 fX12_41 rfl dX12_freshName_24 ?_
      refine aw_aload_n X 0 dX12_freshName_27 rfl rfl ?_
      refine aw_getI X s_758 fX12_166 rfl dX12_freshName_28 (fun c11 => ?_)
      refine aw_aload_n X 0 dX12_freshName_31 rfl rfl ?_
      refine aw_getL X s_758 fX12_139 rfl dX12_freshName_32 (fun c12 => ?_)
      obtain ⟨q13, e14, hf⟩ := z_bd hf
      refine aw_callS X [.ref (ad 769), z_i (q1 758 20), z_v (q1 758 6)] [] [z_i q13] cX12_169 (C_X12_spotOf l D cA sa ad bs 769 3 s_769 (q1 758 20) c11 (q1 758 6) c12 q1 q13 e14) rfl ⟨(Nat.le_of_ble_eq_true rfl), (Nat.le_of_ble_eq_true rfl), (Nat.le_of_ble_eq_true rfl), (Nat.le_of_ble_eq_true rfl)⟩ rfl (Nat.le_of_ble_eq_true rfl) rfl dX12_freshName_35 (fun p15 => ?_)
      refine aw_iconst X dX12_freshName_38 ?_
      refine aw_icmp_ne X (tgt := 61) p15 (z_lit (x := (-1)) (by decide)) dX12_freshName_39 (by decide) (fun h16 => ?_) (fun h16 => ?_)
      · rw [if_neg h16] at hf
        exact A_X12_freshName_61 X hr q1 hf
      · rw [if_pos h16] at hf
        refine aw_aload_n X 0 dX12_freshName_42 rfl rfl ?_
        refine aw_getR X s_758 fX12_48 rfl dX12_freshName_43 ?_
        refine aw_aload_n X 0 dX12_freshName_46 rfl rfl ?_
        refine aw_getI X s_758 fX12_173 rfl dX12_freshName_47 (fun c17 => ?_)
        refine aw_aload_n X 0 dX12_freshName_50 rfl rfl ?_
        refine aw_getL X s_758 fX12_139 rfl dX12_freshName_51 (fun c18 => ?_)
        obtain ⟨q19, e20, hf⟩ := z_bd hf
        refine aw_callS X [.ref (ad 771), z_i (q1 758 22), z_v (q1 758 6)] [] [z_i q19] cX12_169 (C_X12_spotOf l D cA sa ad bs 771 4 s_771 (q1 758 22) c17 (q1 758 6) c18 q1 q19 e20) rfl ⟨(Nat.le_of_ble_eq_true rfl), (Nat.le_of_ble_eq_true rfl), (Nat.le_of_ble_eq_true rfl), (Nat.le_of_ble_eq_true rfl)⟩ rfl (Nat.le_of_ble_eq_true rfl) rfl dX12_freshName_54 (fun p21 => ?_)
        refine aw_iconst X dX12_freshName_57 ?_
        refine aw_icmp_eq X (tgt := 69) p21 (z_lit (x := (-1)) (by decide)) dX12_freshName_58 (by decide) (fun h22 => ?_) (fun h22 => ?_)
        · rw [if_pos h22] at hf
          obtain rfl := Option.some.inj hf
          exact aw_vret X trivial hr rfl dX12_freshName_69
        · rw [if_neg h22] at hf
          exact A_X12_freshName_61 X hr q1 hf
-- SpeedDeskModel.readCluster()V
section S_X12_readCluster
variable {p : Program} {l : Launch} {e : Env} {s : State} {m : MethodId} {args : Array Value} {below : List Frame} {meth : Method} {c : Code} {D : va_G} {cA : Nat → ClassId} {sa ad : Nat → Nat} {bs : Nat} {q : (Nat → Nat → Int)}
set_option maxHeartbeats 4000000 in
set_option maxRecDepth 100000 in
theorem A_X12_readCluster_60 (X : AX p s m args meth c D cA sa bs cX12_readCluster 4 RX12) (hr : meth.sig.returnType = none) (v1 : Int) (c_v1 : Z_L v1) (v3 : Int) (c_v3 : Z_I v3) (σ : Nat → Nat → Int) (hf : f_X12_readCluster_60 v1 v3 σ = some q) : AW p l e (ax_rm 8 0 0) s m args below meth c D cA ad bs 788 SHp 0 0 (ax_MQ below args s D cA ad bs 788 SHp 0 0 none True q) 4 60 [(0, .ref (ad 758)), (1, z_v v1), (3, z_i v3)] [] σ := by
  unfold f_X12_readCluster_60 at hf
  refine aw_aload_n X 0 dX12_readCluster_60 rfl rfl ?_
  refine aw_getR X s_758 fX12_20 rfl dX12_readCluster_61 ?_
  refine aw_iload_n X 2 dX12_readCluster_64 rfl rfl ?_
  refine aw_iconst X dX12_readCluster_65 ?_
  refine aw_iadd X dX12_readCluster_66 ?_
  refine aw_aload_n X 0 dX12_readCluster_67 rfl rfl ?_
  refine aw_iconst X dX12_readCluster_68 ?_
  refine aw_bipush X dX12_readCluster_69 (by decide) ?_
  obtain ⟨q20, e21, hf⟩ := z_bd hf
  refine aw_callV X [z_i 0, z_i 99] [z_i (z_w (v3 + 1)), .ref (ad 762)] [z_i q20.1, z_i (z_w (v3 + 1)), .ref (ad 762)] cX12_179 s_758 ciX12 (C_X12_number l D cA sa ad bs 0 (z_lit (x := 0) (by decide)) 99 (z_lit (x := 99) (by decide)) σ q20 e21) rfl ⟨(Nat.le_of_ble_eq_true rfl), (Nat.le_of_ble_eq_true rfl), (Nat.le_of_ble_eq_true rfl), (Nat.le_of_ble_eq_true rfl)⟩ rfl (Nat.le_of_ble_eq_true rfl) rfl dX12_readCluster_71 (fun p22 => ?_)
  obtain ⟨g23, hf⟩ := z_gd hf
  refine aw_iast X (j := (z_w (v3 + 1)).toNat) s_762 (z_w_in _) g23.1 g23.2 rfl p22 dX12_readCluster_74 ?_
  refine aw_aload_n X 0 dX12_readCluster_75 rfl rfl ?_
  refine aw_getR X s_758 fX12_20 rfl dX12_readCluster_76 ?_
  refine aw_iload_n X 2 dX12_readCluster_79 rfl rfl ?_
  refine aw_iconst X dX12_readCluster_80 ?_
  refine aw_iadd X dX12_readCluster_81 ?_
  refine aw_aload_n X 0 dX12_readCluster_82 rfl rfl ?_
  refine aw_iconst X dX12_readCluster_83 ?_
  refine aw_bipush X dX12_readCluster_84 (by decide) ?_
  obtain ⟨q24, e25, hf⟩ := z_bd hf
  refine aw_callV X [z_i 0, z_i 99] [z_i (z_w (v3 + 2)), .ref (ad 762)] [z_i q24.1, z_i (z_w (v3 + 2)), .ref (ad 762)] cX12_179 s_758 ciX12 (C_X12_number l D cA sa ad bs 0 (z_lit (x := 0) (by decide)) 99 (z_lit (x := 99) (by decide)) (u2 q20.2 762 (z_w (v3 + 1)).toNat q20.1) q24 e25) rfl ⟨(Nat.le_of_ble_eq_true rfl), (Nat.le_of_ble_eq_true rfl), (Nat.le_of_ble_eq_true rfl), (Nat.le_of_ble_eq_true rfl)⟩ rfl (Nat.le_of_ble_eq_true rfl) rfl dX12_readCluster_86 (fun p26 => ?_)
  obtain ⟨g27, hf⟩ := z_gd hf
  refine aw_iast X (j := (z_w (v3 + 2)).toNat) s_762 (z_w_in _) g27.1 g27.2 rfl p26 dX12_readCluster_89 ?_
  refine aw_aload_n X 0 dX12_readCluster_90 rfl rfl ?_
  refine aw_getR X s_758 fX12_20 rfl dX12_readCluster_91 ?_
  refine aw_iload_n X 2 dX12_readCluster_94 rfl rfl ?_
  refine aw_iconst X dX12_readCluster_95 ?_
  refine aw_iadd X dX12_readCluster_96 ?_
  refine aw_iconst X dX12_readCluster_97 ?_
  obtain ⟨g28, hf⟩ := z_gd hf
  refine aw_iast X (j := (z_w (v3 + 3)).toNat) s_762 (z_w_in _) g28.1 g28.2 rfl (z_lit (x := 0) (by decide)) dX12_readCluster_98 ?_
  refine aw_aload_n X 0 dX12_readCluster_99 rfl rfl ?_
  refine aw_getI X s_758 fX12_122 rfl dX12_readCluster_100 (fun c29 => ?_)
  refine aw_iconst X dX12_readCluster_103 ?_
  refine aw_icmp_eq X (tgt := 108) c29 (z_lit (x := (-1)) (by decide)) dX12_readCluster_104 (by decide) (fun h30 => ?_) (fun h30 => ?_)
  · rw [if_pos h30] at hf
    refine aw_aload_n X 0 dX12_readCluster_108 rfl rfl ?_
    refine aw_getR X s_758 fX12_41 rfl dX12_readCluster_109 ?_
    refine aw_aload_n X 0 dX12_readCluster_112 rfl rfl ?_
    refine aw_getI X s_758 fX12_166 rfl dX12_readCluster_113 (fun c31 => ?_)
    refine aw_lload_n X 1 dX12_readCluster_116 rfl rfl ?_
    obtain ⟨g32, hf⟩ := z_gd hf
    refine aw_last X (j := ((u2 (u2 q24.2 762 (z_w (v3 + 2)).toNat q24.1) 762 (z_w (v3 + 3)).toNat 0) 758 20).toNat) s_769 c31 g32.1 g32.2 rfl c_v1 dX12_readCluster_117 ?_
    refine aw_aload_n X 0 dX12_readCluster_118 rfl rfl ?_
    refine aw_dup X dX12_readCluster_119 rfl ?_
    refine aw_getI X s_758 fX12_183 rfl dX12_readCluster_120 (fun c33 => ?_)
    refine aw_aload_n X 0 dX12_readCluster_123 rfl rfl ?_
    refine aw_getR X s_758 fX12_20 rfl dX12_readCluster_124 ?_
    refine aw_iload_n X 2 dX12_readCluster_127 rfl rfl ?_
    obtain ⟨g34, hf⟩ := z_gd hf
    refine aw_iald X (j := v3.toNat) s_762 c_v3 g34.1 g34.2 rfl dX12_readCluster_128 (fun c35 => ?_)
    refine aw_iadd X dX12_readCluster_129 ?_
    refine aw_putI X s_758 pX12_183 rfl (z_w_in _) dX12_readCluster_130 ?_
    refine aw_aload_n X 0 dX12_readCluster_133 rfl rfl ?_
    refine aw_dup X dX12_readCluster_134 rfl ?_
    refine aw_getI X s_758 fX12_166 rfl dX12_readCluster_135 (fun c36 => ?_)
    refine aw_iconst X dX12_readCluster_138 ?_
    refine aw_iadd X dX12_readCluster_139 ?_
    refine aw_putI X s_758 pX12_166 rfl (z_w_in _) dX12_readCluster_140 ?_
    obtain rfl := Option.some.inj hf
    exact aw_vret X trivial hr rfl dX12_readCluster_143
  · rw [if_neg h30] at hf
    obtain rfl := Option.some.inj hf
    exact aw_vret X trivial hr rfl dX12_readCluster_107
end S_X12_readCluster
set_option maxHeartbeats 4000000 in
set_option maxRecDepth 100000 in
theorem C_X12_readCluster (l : Launch) (D : va_G) (cA : Nat → ClassId) (sa ad : Nat → Nat) (bs : Nat)  (σ : Nat → Nat → Int) (q : (Nat → Nat → Int)) (hf : f_X12_readCluster σ = some q) : AM l D cA sa ad bs 788 SHp yX12_readCluster cX12_readCluster 4 none 8 [.ref (ad 758)] σ none True q := by
  refine am_of (by decide +kernel) (Nat.le_of_ble_eq_true rfl) (fun p e s m args below meth c X hr => ?_)
  refine aw_lv (lv' := [(0, .ref (ad 758))]) rfl ?_
  unfold f_X12_readCluster at hf
  refine aw_aload_n X 0 dX12_readCluster_0 rfl rfl ?_
  obtain ⟨q1, e2, hf⟩ := z_bd hf
  refine aw_callV X [] [] [] cX12_176 s_758 ciX12 (C_X12_freshName l D cA sa ad bs σ q1 e2) rfl ⟨(Nat.le_of_ble_eq_true rfl), (Nat.le_of_ble_eq_true rfl), (Nat.le_of_ble_eq_true rfl), (Nat.le_of_ble_eq_true rfl)⟩ rfl (Nat.le_of_ble_eq_true rfl) rfl dX12_readCluster_1 (fun p3 => ?_)
  refine aw_aload_n X 0 dX12_readCluster_4 rfl rfl ?_
  refine aw_getL X s_758 fX12_139 rfl dX12_readCluster_5 (fun c4 => ?_)
  refine aw_lstore_n X [(1, z_v (q1 758 6)), (0, .ref (ad 758))] dX12_readCluster_8 rfl (by decide) rfl ?_
  refine aw_iconst X dX12_readCluster_9 ?_
  refine aw_aload_n X 1 dX12_readCluster_10 rfl rfl ?_
  refine aw_getI X s_758 fX12_166 rfl dX12_readCluster_11 (fun c5 => ?_)
  refine aw_imul X dX12_readCluster_14 ?_
  refine aw_istore_n X [(3, z_i (z_w (4 * (q1 758 20)))), (1, z_v (q1 758 6)), (0, .ref (ad 758))] dX12_readCluster_15 rfl (by decide) rfl ?_
  refine aw_aload_n X 2 dX12_readCluster_16 rfl rfl ?_
  refine aw_getR X s_758 fX12_20 rfl dX12_readCluster_17 ?_
  refine aw_iload_n X 0 dX12_readCluster_20 rfl rfl ?_
  refine aw_aload_n X 2 dX12_readCluster_21 rfl rfl ?_
  refine aw_iconst X dX12_readCluster_22 ?_
  refine aw_iconst X dX12_readCluster_23 ?_
  obtain ⟨q6, e7, hf⟩ := z_bd hf
  refine aw_callV X [z_i 1, z_i 3] [z_i (z_w (4 * (q1 758 20))), .ref (ad 762)] [z_i q6.1, z_i (z_w (4 * (q1 758 20))), .ref (ad 762)] cX12_179 s_758 ciX12 (C_X12_number l D cA sa ad bs 1 (z_lit (x := 1) (by decide)) 3 (z_lit (x := 3) (by decide)) q1 q6 e7) rfl ⟨(Nat.le_of_ble_eq_true rfl), (Nat.le_of_ble_eq_true rfl), (Nat.le_of_ble_eq_true rfl), (Nat.le_of_ble_eq_true rfl)⟩ rfl (Nat.le_of_ble_eq_true rfl) rfl dX12_readCluster_24 (fun p8 => ?_)
  obtain ⟨g9, hf⟩ := z_gd hf
  refine aw_iast X (j := (z_w (4 * (q1 758 20))).toNat) s_762 (z_w_in _) g9.1 g9.2 rfl p8 dX12_readCluster_27 ?_
  refine aw_aload_n X 2 dX12_readCluster_28 rfl rfl ?_
  refine aw_getI X s_758 fX12_122 rfl dX12_readCluster_29 (fun c10 => ?_)
  refine aw_iconst X dX12_readCluster_32 ?_
  refine aw_icmp_ne X (tgt := 60) c10 (z_lit (x := (-1)) (by decide)) dX12_readCluster_33 (by decide) (fun h11 => ?_) (fun h11 => ?_)
  · rw [if_neg h11] at hf
    refine aw_sub [2, 1, 0] rfl ?_
    exact A_X12_readCluster_60 X hr (q1 758 6) c4 (z_w (4 * (q1 758 20))) (z_w_in _) (u2 q6.2 762 (z_w (4 * (q1 758 20))).toNat q6.1) hf
  · rw [if_pos h11] at hf
    refine aw_aload_n X 2 dX12_readCluster_36 rfl rfl ?_
    refine aw_getI X s_758 fX12_183 rfl dX12_readCluster_37 (fun c12 => ?_)
    refine aw_aload_n X 2 dX12_readCluster_40 rfl rfl ?_
    refine aw_getR X s_758 fX12_20 rfl dX12_readCluster_41 ?_
    refine aw_iload_n X 0 dX12_readCluster_44 rfl rfl ?_
    obtain ⟨g13, hf⟩ := z_gd hf
    refine aw_iald X (j := (z_w (4 * (q1 758 20))).toNat) s_762 (z_w_in _) g13.1 g13.2 rfl dX12_readCluster_45 (fun c14 => ?_)
    refine aw_iadd X dX12_readCluster_46 ?_
    refine aw_bipush X dX12_readCluster_47 (by decide) ?_
    refine aw_icmp_le X (tgt := 60) (z_w_in _) (z_lit (x := 6) (by decide)) dX12_readCluster_49 (by decide) (fun h15 => ?_) (fun h15 => ?_)
    · rw [if_pos h15] at hf
      refine aw_sub [2, 1, 0] rfl ?_
      exact A_X12_readCluster_60 X hr (q1 758 6) c4 (z_w (4 * (q1 758 20))) (z_w_in _) (u2 q6.2 762 (z_w (4 * (q1 758 20))).toNat q6.1) hf
    · rw [if_neg h15] at hf
      refine aw_aload_n X 2 dX12_readCluster_52 rfl rfl ?_
      refine aw_aload_n X 2 dX12_readCluster_53 rfl rfl ?_
      refine aw_getI X s_758 fX12_136 rfl dX12_readCluster_54 (fun c16 => ?_)
      obtain ⟨q17, e18, hf⟩ := z_bd hf
      refine aw_callV X [z_i ((u2 q6.2 762 (z_w (4 * (q1 758 20))).toNat q6.1) 758 5)] [] [] cX12_147 s_758 ciX12 (C_X12_fails l D cA sa ad bs ((u2 q6.2 762 (z_w (4 * (q1 758 20))).toNat q6.1) 758 5) c16 (u2 q6.2 762 (z_w (4 * (q1 758 20))).toNat q6.1) q17 e18) rfl ⟨(Nat.le_of_ble_eq_true rfl), (Nat.le_of_ble_eq_true rfl), (Nat.le_of_ble_eq_true rfl), (Nat.le_of_ble_eq_true rfl)⟩ rfl (Nat.le_of_ble_eq_true rfl) rfl dX12_readCluster_57 (fun p19 => ?_)
      refine aw_sub [2, 1, 0] rfl ?_
      exact A_X12_readCluster_60 X hr (q1 758 6) c4 (z_w (4 * (q1 758 20))) (z_w_in _) q17 hf
-- SpeedDeskModel.readPoint()V
section S_X12_readPoint
variable {p : Program} {l : Launch} {e : Env} {s : State} {m : MethodId} {args : Array Value} {below : List Frame} {meth : Method} {c : Code} {D : va_G} {cA : Nat → ClassId} {sa ad : Nat → Nat} {bs : Nat} {q : (Nat → Nat → Int)}
set_option maxHeartbeats 4000000 in
set_option maxRecDepth 100000 in
theorem A_X12_readPoint_48 (X : AX p s m args meth c D cA sa bs cX12_readPoint 4 RX12) (hr : meth.sig.returnType = none)  (σ : Nat → Nat → Int) (hf : f_X12_readPoint_48 σ = some q) : AW p l e (ax_rm 3 0 0) s m args below meth c D cA ad bs 788 SHp 0 0 (ax_MQ below args s D cA ad bs 788 SHp 0 0 none True q) 4 48 [(0, .ref (ad 758))] [] σ := by
  unfold f_X12_readPoint_48 at hf
  refine aw_aload_n X 0 dX12_readPoint_48 rfl rfl ?_
  refine aw_aload_n X 0 dX12_readPoint_49 rfl rfl ?_
  refine aw_getI X s_758 fX12_136 rfl dX12_readPoint_50 (fun c20 => ?_)
  obtain ⟨q21, e22, hf⟩ := z_bd hf
  refine aw_callV X [z_i (σ 758 5)] [] [] cX12_147 s_758 ciX12 (C_X12_fails l D cA sa ad bs (σ 758 5) c20 σ q21 e22) rfl ⟨(Nat.le_of_ble_eq_true rfl), (Nat.le_of_ble_eq_true rfl), (Nat.le_of_ble_eq_true rfl), (Nat.le_of_ble_eq_true rfl)⟩ rfl (Nat.le_of_ble_eq_true rfl) rfl dX12_readPoint_53 (fun p23 => ?_)
  obtain rfl := Option.some.inj hf
  exact aw_vret X trivial hr rfl dX12_readPoint_56
set_option maxHeartbeats 4000000 in
set_option maxRecDepth 100000 in
theorem A_X12_readPoint_100 (X : AX p s m args meth c D cA sa bs cX12_readPoint 4 RX12) (hr : meth.sig.returnType = none) (v1 : Int) (c_v1 : Z_I v1) (v3 : Int) (c_v3 : Z_I v3) (t0 : Int) (c_t0 : Z_I t0) (t2 : Int) (c_t2 : Z_I t2) (b3 : Nat) (h_b3 : b3 < 788 ∧ SHp b3 = .inr (0, 30, [])) (σ : Nat → Nat → Int) (hf : f_X12_readPoint_100 v1 v3 t0 t2 b3 σ = some q) : AW p l e (ax_rm 3 0 0) s m args below meth c D cA ad bs 788 SHp 0 0 (ax_MQ below args s D cA ad bs 788 SHp 0 0 none True q) 4 100 [(0, .ref (ad 758)), (1, z_i v1), (3, z_i v3)] [z_i t0, .ref (ad 758), z_i t2, .ref (ad b3)] σ := by
  unfold f_X12_readPoint_100 at hf
  refine aw_bipush X dX12_readPoint_100 (by decide) ?_
  obtain ⟨q24, e25, hf⟩ := z_bd hf
  refine aw_callV X [z_i t0, z_i 99] [z_i t2, .ref (ad b3)] [z_i q24.1, z_i t2, .ref (ad b3)] cX12_179 s_758 ciX12 (C_X12_number l D cA sa ad bs t0 c_t0 99 (z_lit (x := 99) (by decide)) σ q24 e25) rfl ⟨(Nat.le_of_ble_eq_true rfl), (Nat.le_of_ble_eq_true rfl), (Nat.le_of_ble_eq_true rfl), (Nat.le_of_ble_eq_true rfl)⟩ rfl (Nat.le_of_ble_eq_true rfl) rfl dX12_readPoint_102 (fun p26 => ?_)
  obtain ⟨g27, hf⟩ := z_gd hf
  refine aw_iast X (j := t2.toNat) h_b3 c_t2 g27.1 g27.2 rfl p26 dX12_readPoint_105 ?_
  refine aw_aload_n X 0 dX12_readPoint_106 rfl rfl ?_
  refine aw_getR X s_758 fX12_26 rfl dX12_readPoint_107 ?_
  refine aw_iload_n X 2 dX12_readPoint_110 rfl rfl ?_
  refine aw_iconst X dX12_readPoint_111 ?_
  refine aw_iadd X dX12_readPoint_112 ?_
  refine aw_aload_n X 0 dX12_readPoint_113 rfl rfl ?_
  refine aw_iconst X dX12_readPoint_114 ?_
  refine aw_bipush X dX12_readPoint_115 (by decide) ?_
  obtain ⟨q28, e29, hf⟩ := z_bd hf
  refine aw_callV X [z_i 1, z_i 99] [z_i (z_w (v3 + 1)), .ref (ad 764)] [z_i q28.1, z_i (z_w (v3 + 1)), .ref (ad 764)] cX12_179 s_758 ciX12 (C_X12_number l D cA sa ad bs 1 (z_lit (x := 1) (by decide)) 99 (z_lit (x := 99) (by decide)) (u2 q24.2 b3 t2.toNat q24.1) q28 e29) rfl ⟨(Nat.le_of_ble_eq_true rfl), (Nat.le_of_ble_eq_true rfl), (Nat.le_of_ble_eq_true rfl), (Nat.le_of_ble_eq_true rfl)⟩ rfl (Nat.le_of_ble_eq_true rfl) rfl dX12_readPoint_117 (fun p30 => ?_)
  obtain ⟨g31, hf⟩ := z_gd hf
  refine aw_iast X (j := (z_w (v3 + 1)).toNat) s_764 (z_w_in _) g31.1 g31.2 rfl p30 dX12_readPoint_120 ?_
  refine aw_aload_n X 0 dX12_readPoint_121 rfl rfl ?_
  refine aw_getI X s_758 fX12_122 rfl dX12_readPoint_122 (fun c32 => ?_)
  refine aw_iconst X dX12_readPoint_125 ?_
  refine aw_icmp_ne X (tgt := 143) c32 (z_lit (x := (-1)) (by decide)) dX12_readPoint_126 (by decide) (fun h33 => ?_) (fun h33 => ?_)
  · rw [if_neg h33] at hf
    obtain rfl := Option.some.inj hf
    exact aw_vret X trivial hr rfl dX12_readPoint_143
  · rw [if_pos h33] at hf
    refine aw_aload_n X 0 dX12_readPoint_129 rfl rfl ?_
    refine aw_getR X s_758 fX12_20 rfl dX12_readPoint_130 ?_
    refine aw_iconst X dX12_readPoint_133 ?_
    refine aw_iload_n X 1 dX12_readPoint_134 rfl rfl ?_
    refine aw_imul X dX12_readPoint_135 ?_
    refine aw_iconst X dX12_readPoint_136 ?_
    refine aw_iadd X dX12_readPoint_137 ?_
    refine aw_dup2 X dX12_readPoint_138 rfl rfl ?_
    obtain ⟨g34, hf⟩ := z_gd hf
    refine aw_iald X (j := (z_w ((z_w (4 * v1)) + 3)).toNat) s_762 (z_w_in _) g34.1 g34.2 rfl dX12_readPoint_139 (fun c35 => ?_)
    refine aw_iconst X dX12_readPoint_140 ?_
    refine aw_iadd X dX12_readPoint_141 ?_
    obtain ⟨g36, hf⟩ := z_gd hf
    refine aw_iast X (j := (z_w ((z_w (4 * v1)) + 3)).toNat) s_762 (z_w_in _) g36.1 g36.2 rfl (z_w_in _) dX12_readPoint_142 ?_
    obtain rfl := Option.some.inj hf
    exact aw_vret X trivial hr rfl dX12_readPoint_143
end S_X12_readPoint
set_option maxHeartbeats 4000000 in
set_option maxRecDepth 100000 in
theorem C_X12_readPoint (l : Launch) (D : va_G) (cA : Nat → ClassId) (sa ad : Nat → Nat) (bs : Nat)  (σ : Nat → Nat → Int) (q : (Nat → Nat → Int)) (hf : f_X12_readPoint σ = some q) : AM l D cA sa ad bs 788 SHp yX12_readPoint cX12_readPoint 4 none 3 [.ref (ad 758)] σ none True q := by
  refine am_of (by decide +kernel) (Nat.le_of_ble_eq_true rfl) (fun p e s m args below meth c X hr => ?_)
  refine aw_lv (lv' := [(0, .ref (ad 758))]) rfl ?_
  unfold f_X12_readPoint at hf
  refine aw_aload_n X 0 dX12_readPoint_0 rfl rfl ?_
  obtain ⟨q1, e2, hf⟩ := z_bd hf
  refine aw_callV X [] [] [] cX12_160 s_758 ciX12 (C_X12_word l D cA sa ad bs σ q1 e2) rfl ⟨(Nat.le_of_ble_eq_true rfl), (Nat.le_of_ble_eq_true rfl), (Nat.le_of_ble_eq_true rfl), (Nat.le_of_ble_eq_true rfl)⟩ rfl (Nat.le_of_ble_eq_true rfl) rfl dX12_readPoint_1 (fun p3 => ?_)
  refine aw_aload_n X 0 dX12_readPoint_4 rfl rfl ?_
  refine aw_getI X s_758 fX12_122 rfl dX12_readPoint_5 (fun c4 => ?_)
  refine aw_iconst X dX12_readPoint_8 ?_
  refine aw_icmp_eq X (tgt := 13) c4 (z_lit (x := (-1)) (by decide)) dX12_readPoint_9 (by decide) (fun h5 => ?_) (fun h5 => ?_)
  · rw [if_pos h5] at hf
    refine aw_aload_n X 0 dX12_readPoint_13 rfl rfl ?_
    refine aw_getR X s_758 fX12_41 rfl dX12_readPoint_14 ?_
    refine aw_aload_n X 0 dX12_readPoint_17 rfl rfl ?_
    refine aw_getI X s_758 fX12_166 rfl dX12_readPoint_18 (fun c6 => ?_)
    refine aw_aload_n X 0 dX12_readPoint_21 rfl rfl ?_
    refine aw_getL X s_758 fX12_139 rfl dX12_readPoint_22 (fun c7 => ?_)
    obtain ⟨q8, e9, hf⟩ := z_bd hf
    refine aw_callS X [.ref (ad 769), z_i (q1 758 20), z_v (q1 758 6)] [] [z_i q8] cX12_169 (C_X12_spotOf l D cA sa ad bs 769 3 s_769 (q1 758 20) c6 (q1 758 6) c7 q1 q8 e9) rfl ⟨(Nat.le_of_ble_eq_true rfl), (Nat.le_of_ble_eq_true rfl), (Nat.le_of_ble_eq_true rfl), (Nat.le_of_ble_eq_true rfl)⟩ rfl (Nat.le_of_ble_eq_true rfl) rfl dX12_readPoint_25 (fun p10 => ?_)
    refine aw_istore_n X [(1, z_i q8), (0, .ref (ad 758))] dX12_readPoint_28 rfl (by decide) rfl ?_
    refine aw_iload_n X 0 dX12_readPoint_29 rfl rfl ?_
    refine aw_iconst X dX12_readPoint_30 ?_
    refine aw_icmp_eq X (tgt := 48) p10 (z_lit (x := (-1)) (by decide)) dX12_readPoint_31 (by decide) (fun h11 => ?_) (fun h11 => ?_)
    · rw [if_pos h11] at hf
      refine aw_sub [1] rfl ?_
      exact A_X12_readPoint_48 X hr q1 hf
    · rw [if_neg h11] at hf
      refine aw_aload_n X 1 dX12_readPoint_34 rfl rfl ?_
      refine aw_getR X s_758 fX12_20 rfl dX12_readPoint_35 ?_
      refine aw_iconst X dX12_readPoint_38 ?_
      refine aw_iload_n X 0 dX12_readPoint_39 rfl rfl ?_
      refine aw_imul X dX12_readPoint_40 ?_
      refine aw_iconst X dX12_readPoint_41 ?_
      refine aw_iadd X dX12_readPoint_42 ?_
      obtain ⟨g12, hf⟩ := z_gd hf
      refine aw_iald X (j := (z_w ((z_w (4 * q8)) + 3)).toNat) s_762 (z_w_in _) g12.1 g12.2 rfl dX12_readPoint_43 (fun c13 => ?_)
      refine aw_iconst X dX12_readPoint_44 ?_
      refine aw_icmp_ne X (tgt := 57) c13 (z_lit (x := 5) (by decide)) dX12_readPoint_45 (by decide) (fun h14 => ?_) (fun h14 => ?_)
      · rw [if_neg h14] at hf
        refine aw_aload_n X 1 dX12_readPoint_57 rfl rfl ?_
        refine aw_getR X s_758 fX12_20 rfl dX12_readPoint_58 ?_
        refine aw_iconst X dX12_readPoint_61 ?_
        refine aw_iload_n X 0 dX12_readPoint_62 rfl rfl ?_
        refine aw_imul X dX12_readPoint_63 ?_
        refine aw_iconst X dX12_readPoint_64 ?_
        refine aw_iadd X dX12_readPoint_65 ?_
        obtain ⟨g15, hf⟩ := z_gd hf
        refine aw_iald X (j := (z_w ((z_w (4 * q8)) + 3)).toNat) s_762 (z_w_in _) g15.1 g15.2 rfl dX12_readPoint_66 (fun c16 => ?_)
        refine aw_istore_n X [(2, z_i (q1 762 (z_w ((z_w (4 * q8)) + 3)).toNat)), (1, z_i q8), (0, .ref (ad 758))] dX12_readPoint_67 rfl (by decide) rfl ?_
        refine aw_iconst X dX12_readPoint_68 ?_
        refine aw_iconst X dX12_readPoint_69 ?_
        refine aw_iload_n X 1 dX12_readPoint_70 rfl rfl ?_
        refine aw_imul X dX12_readPoint_71 ?_
        refine aw_iload_n X 0 dX12_readPoint_72 rfl rfl ?_
        refine aw_iadd X dX12_readPoint_73 ?_
        refine aw_imul X dX12_readPoint_74 ?_
        refine aw_istore_n X [(3, z_i (z_w (2 * (z_w ((z_w (5 * q8)) + (q1 762 (z_w ((z_w (4 * q8)) + 3)).toNat)))))), (2, z_i (q1 762 (z_w ((z_w (4 * q8)) + 3)).toNat)), (1, z_i q8), (0, .ref (ad 758))] dX12_readPoint_75 rfl (by decide) rfl ?_
        refine aw_aload_n X 3 dX12_readPoint_76 rfl rfl ?_
        refine aw_getR X s_758 fX12_26 rfl dX12_readPoint_77 ?_
        refine aw_iload_n X 0 dX12_readPoint_80 rfl rfl ?_
        refine aw_aload_n X 3 dX12_readPoint_81 rfl rfl ?_
        refine aw_iload_n X 1 dX12_readPoint_82 rfl rfl ?_
        refine aw_if_ne X (tgt := 90) c16 dX12_readPoint_83 (by decide) (fun h17 => ?_) (fun h17 => ?_)
        · rw [if_neg h17] at hf
          refine aw_aload_n X 3 dX12_readPoint_90 rfl rfl ?_
          refine aw_getR X s_758 fX12_26 rfl dX12_readPoint_91 ?_
          refine aw_iload_n X 0 dX12_readPoint_94 rfl rfl ?_
          refine aw_iconst X dX12_readPoint_95 ?_
          refine aw_isub X dX12_readPoint_96 ?_
          obtain ⟨g18, hf⟩ := z_gd hf
          refine aw_iald X (j := (z_w ((z_w (2 * (z_w ((z_w (5 * q8)) + (q1 762 (z_w ((z_w (4 * q8)) + 3)).toNat))))) - 2)).toNat) s_764 (z_w_in _) g18.1 g18.2 rfl dX12_readPoint_97 (fun c19 => ?_)
          refine aw_iconst X dX12_readPoint_98 ?_
          refine aw_iadd X dX12_readPoint_99 ?_
          refine aw_sub [3, 2, 0] rfl ?_
          exact A_X12_readPoint_100 X hr q8 p10 (z_w (2 * (z_w ((z_w (5 * q8)) + (q1 762 (z_w ((z_w (4 * q8)) + 3)).toNat))))) (z_w_in _) (z_w ((q1 764 (z_w ((z_w (2 * (z_w ((z_w (5 * q8)) + (q1 762 (z_w ((z_w (4 * q8)) + 3)).toNat))))) - 2)).toNat) + 1)) (z_w_in _) (z_w (2 * (z_w ((z_w (5 * q8)) + (q1 762 (z_w ((z_w (4 * q8)) + 3)).toNat))))) (z_w_in _) 764 s_764 q1 hf
        · rw [if_pos h17] at hf
          refine aw_iconst X dX12_readPoint_86 ?_
          refine aw_goto X (tgt := 100) dX12_readPoint_87 (by decide) ?_
          refine aw_sub [3, 2, 0] rfl ?_
          exact A_X12_readPoint_100 X hr q8 p10 (z_w (2 * (z_w ((z_w (5 * q8)) + (q1 762 (z_w ((z_w (4 * q8)) + 3)).toNat))))) (z_w_in _) 1 (z_lit (x := 1) (by decide)) (z_w (2 * (z_w ((z_w (5 * q8)) + (q1 762 (z_w ((z_w (4 * q8)) + 3)).toNat))))) (z_w_in _) 764 s_764 q1 hf
      · rw [if_pos h14] at hf
        refine aw_sub [1] rfl ?_
        exact A_X12_readPoint_48 X hr q1 hf
  · rw [if_neg h5] at hf
    obtain rfl := Option.some.inj hf
    exact aw_vret X trivial hr rfl dX12_readPoint_12
-- SpeedDeskModel.readTask()V
section S_X12_readTask
variable {p : Program} {l : Launch} {e : Env} {s : State} {m : MethodId} {args : Array Value} {below : List Frame} {meth : Method} {c : Code} {D : va_G} {cA : Nat → ClassId} {sa ad : Nat → Nat} {bs : Nat} {q : (Nat → Nat → Int)}

end S_X12_readTask
set_option maxHeartbeats 4000000 in
set_option maxRecDepth 100000 in
theorem C_X12_readTask (l : Launch) (D : va_G) (cA : Nat → ClassId) (sa ad : Nat → Nat) (bs : Nat)  (σ : Nat → Nat → Int) (q : (Nat → Nat → Int)) (hf : f_X12_readTask σ = some q) : AM l D cA sa ad bs 788 SHp yX12_readTask cX12_readTask 3 none 8 [.ref (ad 758)] σ none True q := by
  refine am_of (by decide +kernel) (Nat.le_of_ble_eq_true rfl) (fun p e s m args below meth c X hr => ?_)
  refine aw_lv (lv' := [(0, .ref (ad 758))]) rfl ?_
  unfold f_X12_readTask at hf
  refine aw_aload_n X 0 dX12_readTask_0 rfl rfl ?_
  obtain ⟨q1, e2, hf⟩ := z_bd hf
  refine aw_callV X [] [] [] cX12_176 s_758 ciX12 (C_X12_freshName l D cA sa ad bs σ q1 e2) rfl ⟨(Nat.le_of_ble_eq_true rfl), (Nat.le_of_ble_eq_true rfl), (Nat.le_of_ble_eq_true rfl), (Nat.le_of_ble_eq_true rfl)⟩ rfl (Nat.le_of_ble_eq_true rfl) rfl dX12_readTask_1 (fun p3 => ?_)
  refine aw_aload_n X 0 dX12_readTask_4 rfl rfl ?_
  refine aw_getL X s_758 fX12_139 rfl dX12_readTask_5 (fun c4 => ?_)
  refine aw_lstore_n X [(1, z_v (q1 758 6)), (0, .ref (ad 758))] dX12_readTask_8 rfl (by decide) rfl ?_
  refine aw_aload_n X 1 dX12_readTask_9 rfl rfl ?_
  refine aw_getR X s_758 fX12_32 rfl dX12_readTask_10 ?_
  refine aw_iconst X dX12_readTask_13 ?_
  refine aw_aload_n X 1 dX12_readTask_14 rfl rfl ?_
  refine aw_getI X s_758 fX12_173 rfl dX12_readTask_15 (fun c5 => ?_)
  refine aw_imul X dX12_readTask_18 ?_
  refine aw_aload_n X 1 dX12_readTask_19 rfl rfl ?_
  refine aw_iconst X dX12_readTask_20 ?_
  refine aw_sipush X dX12_readTask_21 (by decide) ?_
  obtain ⟨q6, e7, hf⟩ := z_bd hf
  refine aw_callV X [z_i 1, z_i 999] [z_i (z_w (2 * (q1 758 22))), .ref (ad 766)] [z_i q6.1, z_i (z_w (2 * (q1 758 22))), .ref (ad 766)] cX12_179 s_758 ciX12 (C_X12_number l D cA sa ad bs 1 (z_lit (x := 1) (by decide)) 999 (z_lit (x := 999) (by decide)) q1 q6 e7) rfl ⟨(Nat.le_of_ble_eq_true rfl), (Nat.le_of_ble_eq_true rfl), (Nat.le_of_ble_eq_true rfl), (Nat.le_of_ble_eq_true rfl)⟩ rfl (Nat.le_of_ble_eq_true rfl) rfl dX12_readTask_24 (fun p8 => ?_)
  obtain ⟨g9, hf⟩ := z_gd hf
  refine aw_iast X (j := (z_w (2 * (q1 758 22))).toNat) s_766 (z_w_in _) g9.1 g9.2 rfl p8 dX12_readTask_27 ?_
  refine aw_aload_n X 1 dX12_readTask_28 rfl rfl ?_
  refine aw_getR X s_758 fX12_32 rfl dX12_readTask_29 ?_
  refine aw_iconst X dX12_readTask_32 ?_
  refine aw_aload_n X 1 dX12_readTask_33 rfl rfl ?_
  refine aw_getI X s_758 fX12_173 rfl dX12_readTask_34 (fun c10 => ?_)
  refine aw_imul X dX12_readTask_37 ?_
  refine aw_iconst X dX12_readTask_38 ?_
  refine aw_iadd X dX12_readTask_39 ?_
  refine aw_aload_n X 1 dX12_readTask_40 rfl rfl ?_
  refine aw_iconst X dX12_readTask_41 ?_
  refine aw_bipush X dX12_readTask_42 (by decide) ?_
  obtain ⟨q11, e12, hf⟩ := z_bd hf
  refine aw_callV X [z_i 1, z_i 20] [z_i (z_w ((z_w (2 * ((u2 q6.2 766 (z_w (2 * (q1 758 22))).toNat q6.1) 758 22))) + 1)), .ref (ad 766)] [z_i q11.1, z_i (z_w ((z_w (2 * ((u2 q6.2 766 (z_w (2 * (q1 758 22))).toNat q6.1) 758 22))) + 1)), .ref (ad 766)] cX12_179 s_758 ciX12 (C_X12_number l D cA sa ad bs 1 (z_lit (x := 1) (by decide)) 20 (z_lit (x := 20) (by decide)) (u2 q6.2 766 (z_w (2 * (q1 758 22))).toNat q6.1) q11 e12) rfl ⟨(Nat.le_of_ble_eq_true rfl), (Nat.le_of_ble_eq_true rfl), (Nat.le_of_ble_eq_true rfl), (Nat.le_of_ble_eq_true rfl)⟩ rfl (Nat.le_of_ble_eq_true rfl) rfl dX12_readTask_44 (fun p13 => ?_)
  obtain ⟨g14, hf⟩ := z_gd hf
  refine aw_iast X (j := (z_w ((z_w (2 * ((u2 q6.2 766 (z_w (2 * (q1 758 22))).toNat q6.1) 758 22))) + 1)).toNat) s_766 (z_w_in _) g14.1 g14.2 rfl p13 dX12_readTask_47 ?_
  refine aw_aload_n X 1 dX12_readTask_48 rfl rfl ?_
  refine aw_getI X s_758 fX12_122 rfl dX12_readTask_49 (fun c15 => ?_)
  refine aw_iconst X dX12_readTask_52 ?_
  refine aw_icmp_eq X (tgt := 57) c15 (z_lit (x := (-1)) (by decide)) dX12_readTask_53 (by decide) (fun h16 => ?_) (fun h16 => ?_)
  · rw [if_pos h16] at hf
    refine aw_aload_n X 1 dX12_readTask_57 rfl rfl ?_
    refine aw_getR X s_758 fX12_48 rfl dX12_readTask_58 ?_
    refine aw_aload_n X 1 dX12_readTask_61 rfl rfl ?_
    refine aw_getI X s_758 fX12_173 rfl dX12_readTask_62 (fun c17 => ?_)
    refine aw_lload_n X 0 dX12_readTask_65 rfl rfl ?_
    obtain ⟨g18, hf⟩ := z_gd hf
    refine aw_last X (j := ((u2 q11.2 766 (z_w ((z_w (2 * ((u2 q6.2 766 (z_w (2 * (q1 758 22))).toNat q6.1) 758 22))) + 1)).toNat q11.1) 758 22).toNat) s_771 c17 g18.1 g18.2 rfl c4 dX12_readTask_66 ?_
    refine aw_aload_n X 1 dX12_readTask_67 rfl rfl ?_
    refine aw_dup X dX12_readTask_68 rfl ?_
    refine aw_getI X s_758 fX12_173 rfl dX12_readTask_69 (fun c19 => ?_)
    refine aw_iconst X dX12_readTask_72 ?_
    refine aw_iadd X dX12_readTask_73 ?_
    refine aw_putI X s_758 pX12_173 rfl (z_w_in _) dX12_readTask_74 ?_
    obtain rfl := Option.some.inj hf
    exact aw_vret X trivial hr rfl dX12_readTask_77
  · rw [if_neg h16] at hf
    obtain rfl := Option.some.inj hf
    exact aw_vret X trivial hr rfl dX12_readTask_56
-- SpeedDeskModel.leastRule(I)I
section S_X12_leastRule
variable {p : Program} {l : Launch} {e : Env} {s : State} {m : MethodId} {args : Array Value} {below : List Frame} {meth : Method} {c : Code} {D : va_G} {cA : Nat → ClassId} {sa ad : Nat → Nat} {bs : Nat} {q : Int}

end S_X12_leastRule
set_option maxHeartbeats 4000000 in
set_option maxRecDepth 100000 in
theorem C_X12_leastRule (l : Launch) (D : va_G) (cA : Nat → ClassId) (sa ad : Nat → Nat) (bs : Nat) (v0 : Int) (c_v0 : Z_I v0) (σ : Nat → Nat → Int) (q : Int) (hf : f_X12_leastRule v0 σ = some q) : AM l D cA sa ad bs 788 SHp yX12_leastRule cX12_leastRule 1 (some .int) 0 [z_i v0] σ (some (z_i q)) (Z_I q) σ := by
  refine am_of (by decide +kernel) (Nat.le_of_ble_eq_true rfl) (fun p e s m args below meth c X hr => ?_)
  refine aw_lv (lv' := [(0, z_i v0)]) rfl ?_
  unfold f_X12_leastRule at hf
  refine aw_iload_n X 0 dX12_leastRule_0 rfl rfl ?_
  refine aw_iconst X dX12_leastRule_1 ?_
  refine aw_icmp_ne X (tgt := 9) c_v0 (z_lit (x := 5) (by decide)) dX12_leastRule_2 (by decide) (fun h1 => ?_) (fun h1 => ?_)
  · rw [if_neg h1] at hf
    refine aw_iload_n X 0 dX12_leastRule_9 rfl rfl ?_
    refine aw_iconst X dX12_leastRule_10 ?_
    refine aw_icmp_eq X (tgt := 19) c_v0 (z_lit (x := 2) (by decide)) dX12_leastRule_11 (by decide) (fun h2 => ?_) (fun h2 => ?_)
    · rw [if_pos h2] at hf
      refine aw_iconst X dX12_leastRule_19 ?_
      refine aw_goto X (tgt := 24) dX12_leastRule_20 (by decide) ?_
      obtain rfl := Option.some.inj hf
      exact aw_iret X (z_lit (x := 1) (by decide)) hr rfl dX12_leastRule_24
    · rw [if_neg h2] at hf
      refine aw_iload_n X 0 dX12_leastRule_14 rfl rfl ?_
      refine aw_iconst X dX12_leastRule_15 ?_
      refine aw_icmp_ne X (tgt := 23) c_v0 (z_lit (x := 4) (by decide)) dX12_leastRule_16 (by decide) (fun h3 => ?_) (fun h3 => ?_)
      · rw [if_neg h3] at hf
        refine aw_iconst X dX12_leastRule_23 ?_
        obtain rfl := Option.some.inj hf
        exact aw_iret X (z_lit (x := 0) (by decide)) hr rfl dX12_leastRule_24
      · rw [if_pos h3] at hf
        refine aw_iconst X dX12_leastRule_19 ?_
        refine aw_goto X (tgt := 24) dX12_leastRule_20 (by decide) ?_
        obtain rfl := Option.some.inj hf
        exact aw_iret X (z_lit (x := 1) (by decide)) hr rfl dX12_leastRule_24
  · rw [if_pos h1] at hf
    refine aw_iconst X dX12_leastRule_5 ?_
    refine aw_goto X (tgt := 24) dX12_leastRule_6 (by decide) ?_
    obtain rfl := Option.some.inj hf
    exact aw_iret X (z_lit (x := 2) (by decide)) hr rfl dX12_leastRule_24
-- SpeedDeskModel.mostRule(I)I
section S_X12_mostRule
variable {p : Program} {l : Launch} {e : Env} {s : State} {m : MethodId} {args : Array Value} {below : List Frame} {meth : Method} {c : Code} {D : va_G} {cA : Nat → ClassId} {sa ad : Nat → Nat} {bs : Nat} {q : Int}

end S_X12_mostRule
set_option maxHeartbeats 4000000 in
set_option maxRecDepth 100000 in
theorem C_X12_mostRule (l : Launch) (D : va_G) (cA : Nat → ClassId) (sa ad : Nat → Nat) (bs : Nat) (v0 : Int) (c_v0 : Z_I v0) (σ : Nat → Nat → Int) (q : Int) (hf : f_X12_mostRule v0 σ = some q) : AM l D cA sa ad bs 788 SHp yX12_mostRule cX12_mostRule 1 (some .int) 0 [z_i v0] σ (some (z_i q)) (Z_I q) σ := by
  refine am_of (by decide +kernel) (Nat.le_of_ble_eq_true rfl) (fun p e s m args below meth c X hr => ?_)
  refine aw_lv (lv' := [(0, z_i v0)]) rfl ?_
  unfold f_X12_mostRule at hf
  refine aw_iload_n X 0 dX12_mostRule_0 rfl rfl ?_
  by_cases h1 : v0 = 0
  · rw [if_pos h1] at hf
    refine aw_tabIn X (tgt := 40) c_v0 dX12_mostRule_1 (by omega) (by omega) (by rw [h1]; rfl) (by decide) ?_
    refine aw_bipush X dX12_mostRule_40 (by decide) ?_
    obtain rfl := Option.some.inj hf
    exact aw_iret X (z_lit (x := 100) (by decide)) hr rfl dX12_mostRule_42
  rw [if_neg h1] at hf
  by_cases h2 : v0 = 1
  · rw [if_pos h2] at hf
    refine aw_tabIn X (tgt := 53) c_v0 dX12_mostRule_1 (by omega) (by omega) (by rw [h2]; rfl) (by decide) ?_
    refine aw_bipush X dX12_mostRule_53 (by decide) ?_
    obtain rfl := Option.some.inj hf
    exact aw_iret X (z_lit (x := 20) (by decide)) hr rfl dX12_mostRule_55
  rw [if_neg h2] at hf
  by_cases h3 : v0 = 2
  · rw [if_pos h3] at hf
    refine aw_tabIn X (tgt := 53) c_v0 dX12_mostRule_1 (by omega) (by omega) (by rw [h3]; rfl) (by decide) ?_
    refine aw_bipush X dX12_mostRule_53 (by decide) ?_
    obtain rfl := Option.some.inj hf
    exact aw_iret X (z_lit (x := 20) (by decide)) hr rfl dX12_mostRule_55
  rw [if_neg h3] at hf
  by_cases h4 : v0 = 3
  · rw [if_pos h4] at hf
    refine aw_tabIn X (tgt := 43) c_v0 dX12_mostRule_1 (by omega) (by omega) (by rw [h4]; rfl) (by decide) ?_
    refine aw_bipush X dX12_mostRule_43 (by decide) ?_
    obtain rfl := Option.some.inj hf
    exact aw_iret X (z_lit (x := 9) (by decide)) hr rfl dX12_mostRule_45
  rw [if_neg h4] at hf
  by_cases h5 : v0 = 4
  · rw [if_pos h5] at hf
    refine aw_tabIn X (tgt := 46) c_v0 dX12_mostRule_1 (by omega) (by omega) (by rw [h5]; rfl) (by decide) ?_
    refine aw_sipush X dX12_mostRule_46 (by decide) ?_
    obtain rfl := Option.some.inj hf
    exact aw_iret X (z_lit (x := 9999) (by decide)) hr rfl dX12_mostRule_49
  rw [if_neg h5] at hf
  by_cases h6 : v0 = 5
  · rw [if_pos h6] at hf
    refine aw_tabIn X (tgt := 50) c_v0 dX12_mostRule_1 (by omega) (by omega) (by rw [h6]; rfl) (by decide) ?_
    refine aw_bipush X dX12_mostRule_50 (by decide) ?_
    obtain rfl := Option.some.inj hf
    exact aw_iret X (z_lit (x := 16) (by decide)) hr rfl dX12_mostRule_52
  rw [if_neg h6] at hf
  refine aw_tabOut X (tgt := 53) c_v0 dX12_mostRule_1 (by omega) (by decide) ?_
  refine aw_bipush X dX12_mostRule_53 (by decide) ?_
  obtain rfl := Option.some.inj hf
  exact aw_iret X (z_lit (x := 20) (by decide)) hr rfl dX12_mostRule_55
-- SpeedDeskModel.usualRule(I)I
section S_X12_usualRule
variable {p : Program} {l : Launch} {e : Env} {s : State} {m : MethodId} {args : Array Value} {below : List Frame} {meth : Method} {c : Code} {D : va_G} {cA : Nat → ClassId} {sa ad : Nat → Nat} {bs : Nat} {q : Int}

end S_X12_usualRule
set_option maxHeartbeats 4000000 in
set_option maxRecDepth 100000 in
theorem C_X12_usualRule (l : Launch) (D : va_G) (cA : Nat → ClassId) (sa ad : Nat → Nat) (bs : Nat) (v0 : Int) (c_v0 : Z_I v0) (σ : Nat → Nat → Int) (q : Int) (hf : f_X12_usualRule v0 σ = some q) : AM l D cA sa ad bs 788 SHp yX12_usualRule cX12_usualRule 1 (some .int) 0 [z_i v0] σ (some (z_i q)) (Z_I q) σ := by
  refine am_of (by decide +kernel) (Nat.le_of_ble_eq_true rfl) (fun p e s m args below meth c X hr => ?_)
  refine aw_lv (lv' := [(0, z_i v0)]) rfl ?_
  unfold f_X12_usualRule at hf
  refine aw_iload_n X 0 dX12_usualRule_0 rfl rfl ?_
  by_cases h1 : v0 = 0
  · rw [if_pos h1] at hf
    refine aw_tabIn X (tgt := 36) c_v0 dX12_usualRule_1 (by omega) (by omega) (by rw [h1]; rfl) (by decide) ?_
    refine aw_bipush X dX12_usualRule_36 (by decide) ?_
    obtain rfl := Option.some.inj hf
    exact aw_iret X (z_lit (x := 25) (by decide)) hr rfl dX12_usualRule_38
  rw [if_neg h1] at hf
  by_cases h2 : v0 = 1
  · rw [if_pos h2] at hf
    refine aw_tabIn X (tgt := 39) c_v0 dX12_usualRule_1 (by omega) (by omega) (by rw [h2]; rfl) (by decide) ?_
    refine aw_iconst X dX12_usualRule_39 ?_
    obtain rfl := Option.some.inj hf
    exact aw_iret X (z_lit (x := 3) (by decide)) hr rfl dX12_usualRule_40
  rw [if_neg h2] at hf
  by_cases h3 : v0 = 2
  · rw [if_pos h3] at hf
    refine aw_tabIn X (tgt := 41) c_v0 dX12_usualRule_1 (by omega) (by omega) (by rw [h3]; rfl) (by decide) ?_
    refine aw_iconst X dX12_usualRule_41 ?_
    obtain rfl := Option.some.inj hf
    exact aw_iret X (z_lit (x := 2) (by decide)) hr rfl dX12_usualRule_42
  rw [if_neg h3] at hf
  by_cases h4 : v0 = 3
  · rw [if_pos h4] at hf
    refine aw_tabIn X (tgt := 43) c_v0 dX12_usualRule_1 (by omega) (by omega) (by rw [h4]; rfl) (by decide) ?_
    refine aw_iconst X dX12_usualRule_43 ?_
    obtain rfl := Option.some.inj hf
    exact aw_iret X (z_lit (x := 0) (by decide)) hr rfl dX12_usualRule_44
  rw [if_neg h4] at hf
  by_cases h5 : v0 = 4
  · rw [if_pos h5] at hf
    refine aw_tabIn X (tgt := 45) c_v0 dX12_usualRule_1 (by omega) (by omega) (by rw [h5]; rfl) (by decide) ?_
    refine aw_sipush X dX12_usualRule_45 (by decide) ?_
    obtain rfl := Option.some.inj hf
    exact aw_iret X (z_lit (x := 9999) (by decide)) hr rfl dX12_usualRule_48
  rw [if_neg h5] at hf
  refine aw_tabOut X (tgt := 49) c_v0 dX12_usualRule_1 (by omega) (by decide) ?_
  refine aw_bipush X dX12_usualRule_49 (by decide) ?_
  obtain rfl := Option.some.inj hf
  exact aw_iret X (z_lit (x := 8) (by decide)) hr rfl dX12_usualRule_51
