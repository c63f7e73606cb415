-- SpeedDeskModel.readLine(I)I
section S_X12_readLine
variable {p : Program} {l : Launch} {e : Env} {s : State} {m : MethodId} {args : Array Value} {below : List Frame} {meth : Method} {c : Code} {D : va_G} {cA : Nat → ClassId} {sa ad : Nat → Nat} {bs : Nat} {q : (Int × (Nat → Nat → Int))}
set_option maxHeartbeats 4000000 in
set_option maxRecDepth 100000 in
theorem A_X12_readLine_100 (X : AX p s m args meth c D cA sa bs cX12_readLine 4 RX12) (hr : meth.sig.returnType = (some .int)) (v1 : Int) (c_v1 : Z_I v1) (v2 : Int) (c_v2 : Z_I v2) (σ : Nat → Nat → Int) (hf : f_X12_readLine_100 v1 v2 σ = some q) : AW p l e (ax_rm 9 0 0) s m args below meth c D cA ad bs 788 SHp 0 0 (ax_MQ below args s D cA ad bs 788 SHp 0 0 (some (z_i q.1)) (Z_I q.1) q.2) 4 100 [(0, .ref (ad 758)), (1, z_i v1), (2, z_i v2)] [] σ := by
  unfold f_X12_readLine_100 at hf
  refine aw_aload_n X 0 dX12_readLine_100 rfl rfl ?_
  refine aw_getI X s_758 fX12_122 rfl dX12_readLine_101 (fun c27 => ?_)
  refine aw_iconst X dX12_readLine_104 ?_
  refine aw_icmp_eq X (tgt := 110) c27 (z_lit (x := (-1)) (by decide)) dX12_readLine_105 (by decide) (fun h28 => ?_) (fun h28 => ?_)
  · rw [if_pos h28] at hf
    refine aw_iload_n X 2 dX12_readLine_110 rfl rfl ?_
    by_cases h29 : v2 = 0
    · rw [if_pos h29] at hf
      refine aw_tabIn X (tgt := 136) c_v2 dX12_readLine_111 (by omega) (by omega) (by rw [h29]; rfl) (by decide) ?_
      refine aw_aload_n X 0 dX12_readLine_136 rfl rfl ?_
      obtain ⟨q30, e31, hf⟩ := z_bd hf
      refine aw_callV X [] [] [] cX12_192 s_758 ciX12 (C_X12_readCluster l D cA sa ad bs σ q30 e31) rfl ⟨(Nat.le_of_ble_eq_true rfl), (Nat.le_of_ble_eq_true rfl), (Nat.le_of_ble_eq_true rfl), (Nat.le_of_ble_eq_true rfl)⟩ rfl (Nat.le_of_ble_eq_true rfl) rfl dX12_readLine_137 (fun p32 => ?_)
      refine aw_iload_n X 1 dX12_readLine_140 rfl rfl ?_
      obtain rfl := Option.some.inj hf
      exact aw_iret X c_v1 hr rfl dX12_readLine_141
    rw [if_neg h29] at hf
    by_cases h33 : v2 = 1
    · rw [if_pos h33] at hf
      refine aw_tabIn X (tgt := 142) c_v2 dX12_readLine_111 (by omega) (by omega) (by rw [h33]; rfl) (by decide) ?_
      refine aw_aload_n X 0 dX12_readLine_142 rfl rfl ?_
      obtain ⟨q34, e35, hf⟩ := z_bd hf
      refine aw_callV X [] [] [] cX12_195 s_758 ciX12 (C_X12_readPoint l D cA sa ad bs σ q34 e35) rfl ⟨(Nat.le_of_ble_eq_true rfl), (Nat.le_of_ble_eq_true rfl), (Nat.le_of_ble_eq_true rfl), (Nat.le_of_ble_eq_true rfl)⟩ rfl (Nat.le_of_ble_eq_true rfl) rfl dX12_readLine_143 (fun p36 => ?_)
      refine aw_iload_n X 1 dX12_readLine_146 rfl rfl ?_
      obtain rfl := Option.some.inj hf
      exact aw_iret X c_v1 hr rfl dX12_readLine_147
    rw [if_neg h33] at hf
    by_cases h37 : v2 = 2
    · rw [if_pos h37] at hf
      refine aw_tabIn X (tgt := 148) c_v2 dX12_readLine_111 (by omega) (by omega) (by rw [h37]; rfl) (by decide) ?_
      refine aw_aload_n X 0 dX12_readLine_148 rfl rfl ?_
      obtain ⟨q38, e39, hf⟩ := z_bd hf
      refine aw_callV X [] [] [] cX12_198 s_758 ciX12 (C_X12_readTask l D cA sa ad bs σ q38 e39) rfl ⟨(Nat.le_of_ble_eq_true rfl), (Nat.le_of_ble_eq_true rfl), (Nat.le_of_ble_eq_true rfl), (Nat.le_of_ble_eq_true rfl)⟩ rfl (Nat.le_of_ble_eq_true rfl) rfl dX12_readLine_149 (fun p40 => ?_)
      refine aw_iload_n X 1 dX12_readLine_152 rfl rfl ?_
      obtain rfl := Option.some.inj hf
      exact aw_iret X c_v1 hr rfl dX12_readLine_153
    rw [if_neg h37] at hf
    refine aw_tabOut X (tgt := 154) c_v2 dX12_readLine_111 (by omega) (by decide) ?_
    refine aw_aload_n X 0 dX12_readLine_154 rfl rfl ?_
    refine aw_getR X s_758 fX12_13 rfl dX12_readLine_155 ?_
    refine aw_iload_n X 2 dX12_readLine_158 rfl rfl ?_
    refine aw_iconst X dX12_readLine_159 ?_
    refine aw_isub X dX12_readLine_160 ?_
    refine aw_aload_n X 0 dX12_readLine_161 rfl rfl ?_
    refine aw_iload_n X 2 dX12_readLine_162 rfl rfl ?_
    refine aw_iconst X dX12_readLine_163 ?_
    refine aw_isub X dX12_readLine_164 ?_
    obtain ⟨q41, e42, hf⟩ := z_bd hf
    refine aw_callS X [z_i (z_w (v2 - 3))] [.ref (ad 758), z_i (z_w (v2 - 3)), .ref (ad 760)] [z_i q41, .ref (ad 758), z_i (z_w (v2 - 3)), .ref (ad 760)] cX12_201 (C_X12_leastRule l D cA sa ad bs (z_w (v2 - 3)) (z_w_in _) σ q41 e42) rfl ⟨(Nat.le_of_ble_eq_true rfl), (Nat.le_of_ble_eq_true rfl), (Nat.le_of_ble_eq_true rfl), (Nat.le_of_ble_eq_true rfl)⟩ rfl (Nat.le_of_ble_eq_true rfl) rfl dX12_readLine_165 (fun p43 => ?_)
    refine aw_iload_n X 2 dX12_readLine_168 rfl rfl ?_
    refine aw_iconst X dX12_readLine_169 ?_
    refine aw_isub X dX12_readLine_170 ?_
    obtain ⟨q44, e45, hf⟩ := z_bd hf
    refine aw_callS X [z_i (z_w (v2 - 3))] [z_i q41, .ref (ad 758), z_i (z_w (v2 - 3)), .ref (ad 760)] [z_i q44, z_i q41, .ref (ad 758), z_i (z_w (v2 - 3)), .ref (ad 760)] cX12_204 (C_X12_mostRule l D cA sa ad bs (z_w (v2 - 3)) (z_w_in _) σ q44 e45) rfl ⟨(Nat.le_of_ble_eq_true rfl), (Nat.le_of_ble_eq_true rfl), (Nat.le_of_ble_eq_true rfl), (Nat.le_of_ble_eq_true rfl)⟩ rfl (Nat.le_of_ble_eq_true rfl) rfl dX12_readLine_171 (fun p46 => ?_)
    obtain ⟨q47, e48, hf⟩ := z_bd hf
    refine aw_callV X [z_i q41, z_i q44] [z_i (z_w (v2 - 3)), .ref (ad 760)] [z_i q47.1, z_i (z_w (v2 - 3)), .ref (ad 760)] cX12_179 s_758 ciX12 (C_X12_number l D cA sa ad bs q41 p43 q44 p46 σ q47 e48) rfl ⟨(Nat.le_of_ble_eq_true rfl), (Nat.le_of_ble_eq_true rfl), (Nat.le_of_ble_eq_true rfl), (Nat.le_of_ble_eq_true rfl)⟩ rfl (Nat.le_of_ble_eq_true rfl) rfl dX12_readLine_174 (fun p49 => ?_)
    obtain ⟨g50, hf⟩ := z_gd hf
    refine aw_iast X (j := (z_w (v2 - 3)).toNat) s_760 (z_w_in _) g50.1 g50.2 rfl p49 dX12_readLine_177 ?_
    refine aw_iload_n X 1 dX12_readLine_178 rfl rfl ?_
    refine aw_iconst X dX12_readLine_179 ?_
    refine aw_iload_n X 2 dX12_readLine_180 rfl rfl ?_
    refine aw_ishl X dX12_readLine_181 ?_
    refine aw_ior X dX12_readLine_182 ?_
    obtain rfl := Option.some.inj hf
    exact aw_iret X (z_or_in _ _) hr rfl dX12_readLine_183
  · rw [if_neg h28] at hf
    refine aw_iload_n X 1 dX12_readLine_108 rfl rfl ?_
    obtain rfl := Option.some.inj hf
    exact aw_iret X c_v1 hr rfl dX12_readLine_109
set_option maxHeartbeats 4000000 in
set_option maxRecDepth 100000 in
theorem A_X12_readLine_79 (X : AX p s m args meth c D cA sa bs cX12_readLine 4 RX12) (hr : meth.sig.returnType = (some .int)) (v1 : Int) (c_v1 : Z_I v1) (v2 : Int) (c_v2 : Z_I v2) (t0 : Int) (c_t0 : Z_I t0) (σ : Nat → Nat → Int) (hf : f_X12_readLine_79 v1 v2 t0 σ = some q) : AW p l e (ax_rm 9 0 0) s m args below meth c D cA ad bs 788 SHp 0 0 (ax_MQ below args s D cA ad bs 788 SHp 0 0 (some (z_i q.1)) (Z_I q.1) q.2) 4 79 [(0, .ref (ad 758)), (1, z_i v1), (2, z_i v2)] [z_i t0] σ := by
  unfold f_X12_readLine_79 at hf
  refine aw_istore_n X [(3, z_i t0), (0, .ref (ad 758)), (1, z_i v1), (2, z_i v2)] dX12_readLine_79 rfl (by decide) rfl ?_
  refine aw_aload_n X 1 dX12_readLine_80 rfl rfl ?_
  refine aw_getI X s_758 fX12_122 rfl dX12_readLine_81 (fun c17 => ?_)
  refine aw_iconst X dX12_readLine_84 ?_
  refine aw_icmp_ne X (tgt := 100) c17 (z_lit (x := (-1)) (by decide)) dX12_readLine_85 (by decide) (fun h18 => ?_) (fun h18 => ?_)
  · rw [if_neg h18] at hf
    refine aw_sub [1, 2, 3] rfl ?_
    exact A_X12_readLine_100 X hr v1 c_v1 v2 c_v2 σ hf
  · rw [if_pos h18] at hf
    refine aw_iload_n X 0 dX12_readLine_88 rfl rfl ?_
    refine aw_if_ne X (tgt := 100) c_t0 dX12_readLine_89 (by decide) (fun h19 => ?_) (fun h19 => ?_)
    · rw [if_neg h19] at hf
      refine aw_sub [1, 2, 3] rfl ?_
      exact A_X12_readLine_100 X hr v1 c_v1 v2 c_v2 σ hf
    · rw [if_pos h19] at hf
      refine aw_aload_n X 1 dX12_readLine_92 rfl rfl ?_
      refine aw_aload_n X 1 dX12_readLine_93 rfl rfl ?_
      refine aw_getI X s_758 fX12_136 rfl dX12_readLine_94 (fun c20 => ?_)
      obtain ⟨q21, e22, hf⟩ := z_bd hf
      refine aw_callV X [z_i (σ 758 5)] [] [] cX12_147 s_758 ciX12 (C_X12_fails l D cA sa ad bs (σ 758 5) c20 σ q21 e22) rfl ⟨(Nat.le_of_ble_eq_true rfl), (Nat.le_of_ble_eq_true rfl), (Nat.le_of_ble_eq_true rfl), (Nat.le_of_ble_eq_true rfl)⟩ rfl (Nat.le_of_ble_eq_true rfl) rfl dX12_readLine_97 (fun p23 => ?_)
      refine aw_sub [1, 2, 3] rfl ?_
      exact A_X12_readLine_100 X hr v1 c_v1 v2 c_v2 q21 hf
set_option maxHeartbeats 4000000 in
set_option maxRecDepth 100000 in
theorem A_X12_readLine_61 (X : AX p s m args meth c D cA sa bs cX12_readLine 4 RX12) (hr : meth.sig.returnType = (some .int)) (v1 : Int) (c_v1 : Z_I v1) (v2 : Int) (c_v2 : Z_I v2) (σ : Nat → Nat → Int) (hf : f_X12_readLine_61 v1 v2 σ = some q) : AW p l e (ax_rm 9 0 0) s m args below meth c D cA ad bs 788 SHp 0 0 (ax_MQ below args s D cA ad bs 788 SHp 0 0 (some (z_i q.1)) (Z_I q.1) q.2) 4 61 [(0, .ref (ad 758)), (1, z_i v1), (2, z_i v2)] [] σ := by
  unfold f_X12_readLine_61 at hf
  refine aw_iload_n X 2 dX12_readLine_61 rfl rfl ?_
  refine aw_iconst X dX12_readLine_62 ?_
  refine aw_icmp_le X (tgt := 74) c_v2 (z_lit (x := 2) (by decide)) dX12_readLine_63 (by decide) (fun h51 => ?_) (fun h51 => ?_)
  · rw [if_pos h51] at hf
    refine aw_iconst X dX12_readLine_74 ?_
    refine aw_goto X (tgt := 79) dX12_readLine_75 (by decide) ?_
    exact A_X12_readLine_79 X hr v1 c_v1 v2 c_v2 1 (z_lit (x := 1) (by decide)) σ hf
  · rw [if_neg h51] at hf
    refine aw_iload_n X 1 dX12_readLine_66 rfl rfl ?_
    refine aw_iload_n X 2 dX12_readLine_67 rfl rfl ?_
    obtain ⟨q52, e53, hf⟩ := z_bd hf
    refine aw_callS X [z_i v1, z_i v2] [] [z_i q52] cX12_188 (C_X12_has l D cA sa ad bs v1 c_v1 v2 c_v2 σ q52 e53) rfl ⟨(Nat.le_of_ble_eq_true rfl), (Nat.le_of_ble_eq_true rfl), (Nat.le_of_ble_eq_true rfl), (Nat.le_of_ble_eq_true rfl)⟩ rfl (Nat.le_of_ble_eq_true rfl) rfl dX12_readLine_68 (fun p54 => ?_)
    refine aw_if_ne X (tgt := 78) (z_zI p54) dX12_readLine_71 (by decide) (fun h55 => ?_) (fun h55 => ?_)
    · simp only [if_neg h55] at hf
      refine aw_iconst X dX12_readLine_78 ?_
      exact A_X12_readLine_79 X hr v1 c_v1 v2 c_v2 0 (z_lit (x := 0) (by decide)) σ hf
    · simp only [if_pos h55] at hf
      refine aw_iconst X dX12_readLine_74 ?_
      refine aw_goto X (tgt := 79) dX12_readLine_75 (by decide) ?_
      exact A_X12_readLine_79 X hr v1 c_v1 v2 c_v2 1 (z_lit (x := 1) (by decide)) σ hf
set_option maxHeartbeats 4000000 in
set_option maxRecDepth 100000 in
theorem A_X12_readLine_48 (X : AX p s m args meth c D cA sa bs cX12_readLine 4 RX12) (hr : meth.sig.returnType = (some .int)) (v1 : Int) (c_v1 : Z_I v1) (v2 : Int) (c_v2 : Z_I v2) (σ : Nat → Nat → Int) (hf : f_X12_readLine_48 v1 v2 σ = some q) : AW p l e (ax_rm 9 0 0) s m args below meth c D cA ad bs 788 SHp 0 0 (ax_MQ below args s D cA ad bs 788 SHp 0 0 (some (z_i q.1)) (Z_I q.1) q.2) 4 48 [(0, .ref (ad 758)), (1, z_i v1), (2, z_i v2)] [] σ := by
  unfold f_X12_readLine_48 at hf
  refine aw_iload_n X 2 dX12_readLine_48 rfl rfl ?_
  refine aw_iconst X dX12_readLine_49 ?_
  refine aw_icmp_ne X (tgt := 61) c_v2 (z_lit (x := 2) (by decide)) dX12_readLine_50 (by decide) (fun h24 => ?_) (fun h24 => ?_)
  · rw [if_neg h24] at hf
    exact A_X12_readLine_61 X hr v1 c_v1 v2 c_v2 σ hf
  · rw [if_pos h24] at hf
    refine aw_aload_n X 0 dX12_readLine_53 rfl rfl ?_
    refine aw_getI X s_758 fX12_173 rfl dX12_readLine_54 (fun c25 => ?_)
    refine aw_iconst X dX12_readLine_57 ?_
    refine aw_icmp_eq X (tgt := 78) c25 (z_lit (x := 4) (by decide)) dX12_readLine_58 (by decide) (fun h26 => ?_) (fun h26 => ?_)
    · rw [if_pos h26] at hf
      refine aw_iconst X dX12_readLine_78 ?_
      exact A_X12_readLine_79 X hr v1 c_v1 v2 c_v2 0 (z_lit (x := 0) (by decide)) σ hf
    · rw [if_neg h26] at hf
      exact A_X12_readLine_61 X hr v1 c_v1 v2 c_v2 σ hf
set_option maxHeartbeats 4000000 in
set_option maxRecDepth 100000 in
theorem A_X12_readLine_23 (X : AX p s m args meth c D cA sa bs cX12_readLine 4 RX12) (hr : meth.sig.returnType = (some .int)) (v1 : Int) (c_v1 : Z_I v1) (t0 : Int) (c_t0 : Z_I t0) (σ : Nat → Nat → Int) (hf : f_X12_readLine_23 v1 t0 σ = some q) : AW p l e (ax_rm 9 0 0) s m args below meth c D cA ad bs 788 SHp 0 0 (ax_MQ below args s D cA ad bs 788 SHp 0 0 (some (z_i q.1)) (Z_I q.1) q.2) 4 23 [(0, .ref (ad 758)), (1, z_i v1)] [z_i t0] σ := by
  unfold f_X12_readLine_23 at hf
  refine aw_istore_n X [(2, z_i t0), (0, .ref (ad 758)), (1, z_i v1)] dX12_readLine_23 rfl (by decide) rfl ?_
  refine aw_iload_n X 0 dX12_readLine_24 rfl rfl ?_
  refine aw_i2l X c_t0 dX12_readLine_25 ?_
  refine aw_lconst X (x := 0) dX12_readLine_26 (by decide) ?_
  refine aw_ldc2 X (x := 8) dX12_readLine_27 kX12_186 (by decide) ?_
  obtain ⟨q10, e11, hf⟩ := z_bd hf
  refine aw_callS X [z_v t0, z_v 0, z_v 8] [] [z_i q10] cX12_156 (C_X12_isIn l D cA sa ad bs t0 (z_IL c_t0) 0 (z_litL (x := 0) (by decide)) 8 (z_litL (x := 8) (by decide)) σ q10 e11) rfl ⟨(Nat.le_of_ble_eq_true rfl), (Nat.le_of_ble_eq_true rfl), (Nat.le_of_ble_eq_true rfl), (Nat.le_of_ble_eq_true rfl)⟩ rfl (Nat.le_of_ble_eq_true rfl) rfl dX12_readLine_30 (fun p12 => ?_)
  refine aw_if_eq X (tgt := 78) (z_zI p12) dX12_readLine_33 (by decide) (fun h13 => ?_) (fun h13 => ?_)
  · rw [if_pos h13] at hf
    refine aw_iconst X dX12_readLine_78 ?_
    refine aw_sub [1, 2, 0] rfl ?_
    exact A_X12_readLine_79 X hr v1 c_v1 t0 c_t0 0 (z_lit (x := 0) (by decide)) σ hf
  · rw [if_neg h13] at hf
    refine aw_iload_n X 0 dX12_readLine_36 rfl rfl ?_
    refine aw_if_ne X (tgt := 48) c_t0 dX12_readLine_37 (by decide) (fun h14 => ?_) (fun h14 => ?_)
    · rw [if_neg h14] at hf
      refine aw_sub [1, 2, 0] rfl ?_
      exact A_X12_readLine_48 X hr v1 c_v1 t0 c_t0 σ hf
    · rw [if_pos h14] at hf
      refine aw_aload_n X 1 dX12_readLine_40 rfl rfl ?_
      refine aw_getI X s_758 fX12_166 rfl dX12_readLine_41 (fun c15 => ?_)
      refine aw_iconst X dX12_readLine_44 ?_
      refine aw_icmp_eq X (tgt := 78) c15 (z_lit (x := 3) (by decide)) dX12_readLine_45 (by decide) (fun h16 => ?_) (fun h16 => ?_)
      · rw [if_pos h16] at hf
        refine aw_iconst X dX12_readLine_78 ?_
        refine aw_sub [1, 2, 0] rfl ?_
        exact A_X12_readLine_79 X hr v1 c_v1 t0 c_t0 0 (z_lit (x := 0) (by decide)) σ hf
      · rw [if_neg h16] at hf
        refine aw_sub [1, 2, 0] rfl ?_
        exact A_X12_readLine_48 X hr v1 c_v1 t0 c_t0 σ hf
end S_X12_readLine
set_option maxHeartbeats 4000000 in
set_option maxRecDepth 100000 in
theorem C_X12_readLine (l : Launch) (D : va_G) (cA : Nat → ClassId) (sa ad : Nat → Nat) (bs : Nat) (v1 : Int) (c_v1 : Z_I v1) (σ : Nat → Nat → Int) (q : (Int × (Nat → Nat → Int))) (hf : f_X12_readLine v1 σ = some q) : AM l D cA sa ad bs 788 SHp yX12_readLine cX12_readLine 4 (some .int) 9 [.ref (ad 758), z_i v1] σ (some (z_i q.1)) (Z_I q.1) q.2 := by
  refine am_of (by decide +kernel) (Nat.le_of_ble_eq_true rfl) (fun p e s m args below meth c X hr => ?_)
  refine aw_lv (lv' := [(0, .ref (ad 758)), (1, z_i v1)]) rfl ?_
  unfold f_X12_readLine at hf
  refine aw_aload_n X 0 dX12_readLine_0 rfl rfl ?_
  obtain ⟨q1, e2, hf⟩ := z_bd hf
  refine aw_callV X [] [] [] cX12_160 s_758 ciX12 (C_X12_word l D cA sa ad bs σ q1 e2) rfl ⟨(Nat.le_of_ble_eq_true rfl), (Nat.le_of_ble_eq_true rfl), (Nat.le_of_ble_eq_true rfl), (Nat.le_of_ble_eq_true rfl)⟩ rfl (Nat.le_of_ble_eq_true rfl) rfl dX12_readLine_1 (fun p3 => ?_)
  refine aw_aload_n X 0 dX12_readLine_4 rfl rfl ?_
  refine aw_getI X s_758 fX12_122 rfl dX12_readLine_5 (fun c4 => ?_)
  refine aw_iconst X dX12_readLine_8 ?_
  refine aw_icmp_ne X (tgt := 22) c4 (z_lit (x := (-1)) (by decide)) dX12_readLine_9 (by decide) (fun h5 => ?_) (fun h5 => ?_)
  · rw [if_neg h5] at hf
    refine aw_iconst X dX12_readLine_22 ?_
    exact A_X12_readLine_23 X hr v1 c_v1 (-1) (z_lit (x := (-1)) (by decide)) q1 hf
  · rw [if_pos h5] at hf
    refine aw_aload_n X 0 dX12_readLine_12 rfl rfl ?_
    refine aw_getL X s_758 fX12_139 rfl dX12_readLine_13 (fun c6 => ?_)
    obtain ⟨q7, e8, hf⟩ := z_bd hf
    refine aw_callS X [z_v (q1 758 6)] [] [z_i q7] cX12_162 (C_X12_known l D cA sa ad bs (q1 758 6) c6 q1 q7 e8) rfl ⟨(Nat.le_of_ble_eq_true rfl), (Nat.le_of_ble_eq_true rfl), (Nat.le_of_ble_eq_true rfl), (Nat.le_of_ble_eq_true rfl)⟩ rfl (Nat.le_of_ble_eq_true rfl) rfl dX12_readLine_16 (fun p9 => ?_)
    refine aw_goto X (tgt := 23) dX12_readLine_19 (by decide) ?_
    exact A_X12_readLine_23 X hr v1 c_v1 q7 p9 q1 hf
-- SpeedDeskModel.goesOn()Z
section S_X12_goesOn
variable {p : Program} {l : Launch} {e : Env} {s : State} {m : MethodId} {args : Array Value} {below : List Frame} {meth : Method} {c : Code} {D : va_G} {cA : Nat → ClassId} {sa ad : Nat → Nat} {bs : Nat} {q : (Int × (Nat → Nat → Int))}
set_option maxHeartbeats 4000000 in
set_option maxRecDepth 100000 in
theorem A_X12_goesOn_34 (X : AX p s m args meth c D cA sa bs cX12_goesOn 2 RX12) (hr : meth.sig.returnType = (some .boolean)) (v1 : Int) (c_v1 : Z_I v1) (σ : Nat → Nat → Int) (hf : f_X12_goesOn_34 v1 σ = some q) : AW p l e (ax_rm 2 0 0) s m args below meth c D cA ad bs 788 SHp 0 0 (ax_MQ below args s D cA ad bs 788 SHp 0 0 (some (z_i q.1)) (q.1 = 0 ∨ q.1 = 1) q.2) 2 34 [(0, .ref (ad 758)), (1, z_i v1)] [] σ := by
  unfold f_X12_goesOn_34 at hf
  refine aw_iload_n X 1 dX12_goesOn_34 rfl rfl ?_
  refine aw_bipush X dX12_goesOn_35 (by decide) ?_
  refine aw_icmp_eq X (tgt := 42) c_v1 (z_lit (x := 59) (by decide)) dX12_goesOn_37 (by decide) (fun h12 => ?_) (fun h12 => ?_)
  · rw [if_pos h12] at hf
    refine aw_aload_n X 0 dX12_goesOn_42 rfl rfl ?_
    refine aw_dup X dX12_goesOn_43 rfl ?_
    refine aw_getI X s_758 fX12_115 rfl dX12_goesOn_44 (fun c13 => ?_)
    refine aw_iconst X dX12_goesOn_47 ?_
    refine aw_iadd X dX12_goesOn_48 ?_
    refine aw_putI X s_758 pX12_115 rfl (z_w_in _) dX12_goesOn_49 ?_
    refine aw_iconst X dX12_goesOn_52 ?_
    obtain rfl := Option.some.inj hf
    exact aw_zret X (Or.inr rfl) hr (Or.inr rfl) rfl dX12_goesOn_53
  · rw [if_neg h12] at hf
    refine aw_iconst X dX12_goesOn_40 ?_
    obtain rfl := Option.some.inj hf
    exact aw_zret X (Or.inl rfl) hr (Or.inl rfl) rfl dX12_goesOn_41
end S_X12_goesOn
set_option maxHeartbeats 4000000 in
set_option maxRecDepth 100000 in
theorem C_X12_goesOn (l : Launch) (D : va_G) (cA : Nat → ClassId) (sa ad : Nat → Nat) (bs : Nat)  (σ : Nat → Nat → Int) (q : (Int × (Nat → Nat → Int))) (hf : f_X12_goesOn σ = some q) : AM l D cA sa ad bs 788 SHp yX12_goesOn cX12_goesOn 2 (some .boolean) 2 [.ref (ad 758)] σ (some (z_i q.1)) (q.1 = 0 ∨ q.1 = 1) q.2 := by
  refine am_of (by decide +kernel) (Nat.le_of_ble_eq_true rfl) (fun p e s m args below meth c X hr => ?_)
  refine aw_lv (lv' := [(0, .ref (ad 758))]) rfl ?_
  unfold f_X12_goesOn at hf
  refine aw_aload_n X 0 dX12_goesOn_0 rfl rfl ?_
  refine aw_getI X s_758 fX12_122 rfl dX12_goesOn_1 (fun c1 => ?_)
  refine aw_iconst X dX12_goesOn_4 ?_
  refine aw_icmp_eq X (tgt := 10) c1 (z_lit (x := (-1)) (by decide)) dX12_goesOn_5 (by decide) (fun h2 => ?_) (fun h2 => ?_)
  · rw [if_pos h2] at hf
    refine aw_aload_n X 0 dX12_goesOn_10 rfl rfl ?_
    obtain ⟨q3, e4, hf⟩ := z_bd hf
    refine aw_callV X [] [] [z_i q3.1] cX12_133 s_758 ciX12 (C_X12_look l D cA sa ad bs σ q3 e4) rfl ⟨(Nat.le_of_ble_eq_true rfl), (Nat.le_of_ble_eq_true rfl), (Nat.le_of_ble_eq_true rfl), (Nat.le_of_ble_eq_true rfl)⟩ rfl (Nat.le_of_ble_eq_true rfl) rfl dX12_goesOn_11 (fun p5 => ?_)
    refine aw_istore_n X [(1, z_i q3.1), (0, .ref (ad 758))] dX12_goesOn_14 rfl (by decide) rfl ?_
    refine aw_iload_n X 0 dX12_goesOn_15 rfl rfl ?_
    refine aw_iconst X dX12_goesOn_16 ?_
    refine aw_icmp_eq X (tgt := 34) p5 (z_lit (x := (-1)) (by decide)) dX12_goesOn_17 (by decide) (fun h6 => ?_) (fun h6 => ?_)
    · rw [if_pos h6] at hf
      refine aw_sub [1, 0] rfl ?_
      exact A_X12_goesOn_34 X hr q3.1 p5 q3.2 hf
    · rw [if_neg h6] at hf
      refine aw_iload_n X 0 dX12_goesOn_20 rfl rfl ?_
      refine aw_bipush X dX12_goesOn_21 (by decide) ?_
      refine aw_icmp_eq X (tgt := 34) p5 (z_lit (x := 59) (by decide)) dX12_goesOn_23 (by decide) (fun h7 => ?_) (fun h7 => ?_)
      · rw [if_pos h7] at hf
        refine aw_sub [1, 0] rfl ?_
        exact A_X12_goesOn_34 X hr q3.1 p5 q3.2 hf
      · rw [if_neg h7] at hf
        refine aw_aload_n X 1 dX12_goesOn_26 rfl rfl ?_
        refine aw_aload_n X 1 dX12_goesOn_27 rfl rfl ?_
        refine aw_getI X s_758 fX12_115 rfl dX12_goesOn_28 (fun c8 => ?_)
        obtain ⟨q9, e10, hf⟩ := z_bd hf
        refine aw_callV X [z_i (q3.2 758 3)] [] [] cX12_147 s_758 ciX12 (C_X12_fails l D cA sa ad bs (q3.2 758 3) c8 q3.2 q9 e10) rfl ⟨(Nat.le_of_ble_eq_true rfl), (Nat.le_of_ble_eq_true rfl), (Nat.le_of_ble_eq_true rfl), (Nat.le_of_ble_eq_true rfl)⟩ rfl (Nat.le_of_ble_eq_true rfl) rfl dX12_goesOn_31 (fun p11 => ?_)
        refine aw_sub [1, 0] rfl ?_
        exact A_X12_goesOn_34 X hr q3.1 p5 q9 hf
  · rw [if_neg h2] at hf
    refine aw_iconst X dX12_goesOn_8 ?_
    obtain rfl := Option.some.inj hf
    exact aw_zret X (Or.inl rfl) hr (Or.inl rfl) rfl dX12_goesOn_9
-- SpeedDeskModel.readChip()V
section S_X12_readChip
variable {p : Program} {l : Launch} {e : Env} {s : State} {m : MethodId} {args : Array Value} {below : List Frame} {meth : Method} {c : Code} {D : va_G} {cA : Nat → ClassId} {sa ad : Nat → Nat} {bs : Nat} {q : (Nat → Nat → Int)}
set_option maxHeartbeats 4000000 in
set_option maxRecDepth 100000 in
theorem A_X12_readChip_77 (X : AX p s m args meth c D cA sa bs cX12_readChip 5 RX12) (hr : meth.sig.returnType = none) : ∀ (k : Nat) (v3 : Int) (c_v3 : Z_I v3) (v4 : Int) (c_v4 : Z_I v4) (σ : Nat → Nat → Int), f_X12_readChip_77 k v3 v4 σ = some q → AW p l e (ax_rm 10 0 0) s m args below meth c D cA ad bs 788 SHp 0 0 (ax_MQ below args s D cA ad bs 788 SHp 0 0 none True q) 5 77 [(0, .ref (ad 758)), (3, z_i v3), (4, z_i v4)] [] σ := by
  intro k
  induction k with
  | zero =>
    intro v3 c_v3 v4 c_v4 σ hf
    unfold f_X12_readChip_77 at hf
    cases hf
  | succ k ih =>
    intro v3 c_v3 v4 c_v4 σ hf
    unfold f_X12_readChip_77 at hf
    refine aw_iload X 2 dX12_readChip_77 rfl ?_
    refine aw_aload_n X 0 dX12_readChip_79 rfl rfl ?_
    refine aw_getI X s_758 fX12_166 rfl dX12_readChip_80 (fun c15 => ?_)
    refine aw_icmp_ge X (tgt := 116) c_v4 c15 dX12_readChip_83 (by decide) (fun h16 => ?_) (fun h16 => ?_)
    · rw [if_pos h16] at hf
      refine aw_iload_n X 1 dX12_readChip_116 rfl rfl ?_
      refine aw_if_ne X (tgt := 128) c_v3 dX12_readChip_117 (by decide) (fun h17 => ?_) (fun h17 => ?_)
      · rw [if_neg h17] at hf
        obtain rfl := Option.some.inj hf
        exact aw_vret X trivial hr rfl dX12_readChip_128
      · rw [if_pos h17] at hf
        refine aw_aload_n X 0 dX12_readChip_120 rfl rfl ?_
        refine aw_aload_n X 0 dX12_readChip_121 rfl rfl ?_
        refine aw_getI X s_758 fX12_115 rfl dX12_readChip_122 (fun c18 => ?_)
        obtain ⟨q19, e20, hf⟩ := z_bd hf
        refine aw_callV X [z_i (σ 758 3)] [] [] cX12_147 s_758 ciX12 (C_X12_fails l D cA sa ad bs (σ 758 3) c18 σ q19 e20) rfl ⟨(Nat.le_of_ble_eq_true rfl), (Nat.le_of_ble_eq_true rfl), (Nat.le_of_ble_eq_true rfl), (Nat.le_of_ble_eq_true rfl)⟩ rfl (Nat.le_of_ble_eq_true rfl) rfl dX12_readChip_125 (fun p21 => ?_)
        obtain rfl := Option.some.inj hf
        exact aw_vret X trivial hr rfl dX12_readChip_128
    · rw [if_neg h16] at hf
      refine aw_iload_n X 1 dX12_readChip_86 rfl rfl ?_
      refine aw_if_eq X (tgt := 108) c_v3 dX12_readChip_87 (by decide) (fun h22 => ?_) (fun h22 => ?_)
      · rw [if_pos h22] at hf
        refine aw_iconst X dX12_readChip_108 ?_
        refine aw_istore_n X [(3, z_i 0), (0, .ref (ad 758)), (4, z_i v4)] dX12_readChip_109 rfl (by decide) rfl ?_
        refine aw_iinc X 2 [(4, z_i (z_w (v4 + 1))), (3, z_i 0), (0, .ref (ad 758))] dX12_readChip_110 rfl (by decide) rfl ?_
        refine aw_goto X (tgt := 77) dX12_readChip_113 (by decide) ?_
        refine aw_sub [2, 1, 0] rfl ?_
        exact ih 0 (z_lit (x := 0) (by decide)) (z_w (v4 + 1)) (z_w_in _) σ hf
      · rw [if_neg h22] at hf
        refine aw_aload_n X 0 dX12_readChip_90 rfl rfl ?_
        refine aw_getR X s_758 fX12_20 rfl dX12_readChip_91 ?_
        refine aw_iconst X dX12_readChip_94 ?_
        refine aw_iload X 2 dX12_readChip_95 rfl ?_
        refine aw_imul X dX12_readChip_97 ?_
        refine aw_iconst X dX12_readChip_98 ?_
        refine aw_iadd X dX12_readChip_99 ?_
        obtain ⟨g23, hf⟩ := z_gd hf
        refine aw_iald X (j := (z_w ((z_w (4 * v4)) + 3)).toNat) s_762 (z_w_in _) g23.1 g23.2 rfl dX12_readChip_100 (fun c24 => ?_)
        refine aw_if_le X (tgt := 108) c24 dX12_readChip_101 (by decide) (fun h25 => ?_) (fun h25 => ?_)
        · simp only [if_pos h25] at hf
          refine aw_iconst X dX12_readChip_108 ?_
          refine aw_istore_n X [(3, z_i 0), (0, .ref (ad 758)), (4, z_i v4)] dX12_readChip_109 rfl (by decide) rfl ?_
          refine aw_iinc X 2 [(4, z_i (z_w (v4 + 1))), (3, z_i 0), (0, .ref (ad 758))] dX12_readChip_110 rfl (by decide) rfl ?_
          refine aw_goto X (tgt := 77) dX12_readChip_113 (by decide) ?_
          refine aw_sub [2, 1, 0] rfl ?_
          exact ih 0 (z_lit (x := 0) (by decide)) (z_w (v4 + 1)) (z_w_in _) σ hf
        · simp only [if_neg h25] at hf
          refine aw_iconst X dX12_readChip_104 ?_
          refine aw_goto X (tgt := 109) dX12_readChip_105 (by decide) ?_
          refine aw_istore_n X [(3, z_i 1), (0, .ref (ad 758)), (4, z_i v4)] dX12_readChip_109 rfl (by decide) rfl ?_
          refine aw_iinc X 2 [(4, z_i (z_w (v4 + 1))), (3, z_i 1), (0, .ref (ad 758))] dX12_readChip_110 rfl (by decide) rfl ?_
          refine aw_goto X (tgt := 77) dX12_readChip_113 (by decide) ?_
          refine aw_sub [2, 1, 0] rfl ?_
          exact ih 1 (z_lit (x := 1) (by decide)) (z_w (v4 + 1)) (z_w_in _) σ hf
set_option maxHeartbeats 4000000 in
set_option maxRecDepth 100000 in
theorem A_X12_readChip_43 (X : AX p s m args meth c D cA sa bs cX12_readChip 5 RX12) (hr : meth.sig.returnType = none) : ∀ (k : Nat) (v1 : Int) (c_v1 : Z_I v1) (v2 : Int) (c_v2 : Z_I v2) (σ : Nat → Nat → Int), f_X12_readChip_43 k v1 v2 σ = some q → AW p l e (ax_rm 10 0 0) s m args below meth c D cA ad bs 788 SHp 0 0 (ax_MQ below args s D cA ad bs 788 SHp 0 0 none True q) 5 43 [(0, .ref (ad 758)), (1, z_i v1), (2, z_i v2)] [] σ := by
  intro k
  induction k with
  | zero =>
    intro v1 c_v1 v2 c_v2 σ hf
    unfold f_X12_readChip_43 at hf
    cases hf
  | succ k ih =>
    intro v1 c_v1 v2 c_v2 σ hf
    unfold f_X12_readChip_43 at hf
    refine aw_iload_n X 2 dX12_readChip_43 rfl rfl ?_
    refine aw_if_eq X (tgt := 61) c_v2 dX12_readChip_44 (by decide) (fun h6 => ?_) (fun h6 => ?_)
    · rw [if_pos h6] at hf
      refine aw_aload_n X 0 dX12_readChip_61 rfl rfl ?_
      refine aw_getI X s_758 fX12_166 rfl dX12_readChip_62 (fun c7 => ?_)
      refine aw_if_le X (tgt := 72) c7 dX12_readChip_65 (by decide) (fun h8 => ?_) (fun h8 => ?_)
      · simp only [if_pos h8] at hf
        refine aw_iconst X dX12_readChip_72 ?_
        refine aw_istore_n X [(3, z_i 0), (0, .ref (ad 758)), (1, z_i v1), (2, z_i v2)] dX12_readChip_73 rfl (by decide) rfl ?_
        refine aw_iconst X dX12_readChip_74 ?_
        refine aw_istore X [(4, z_i 0), (3, z_i 0), (0, .ref (ad 758)), (1, z_i v1), (2, z_i v2)] dX12_readChip_75 (by decide) rfl ?_
        refine aw_sub [2, 1, 0] rfl ?_
        exact A_X12_readChip_77 X hr 100000 0 (z_lit (x := 0) (by decide)) 0 (z_lit (x := 0) (by decide)) σ hf
      · simp only [if_neg h8] at hf
        refine aw_iconst X dX12_readChip_68 ?_
        refine aw_goto X (tgt := 73) dX12_readChip_69 (by decide) ?_
        refine aw_istore_n X [(3, z_i 1), (0, .ref (ad 758)), (1, z_i v1), (2, z_i v2)] dX12_readChip_73 rfl (by decide) rfl ?_
        refine aw_iconst X dX12_readChip_74 ?_
        refine aw_istore X [(4, z_i 0), (3, z_i 1), (0, .ref (ad 758)), (1, z_i v1), (2, z_i v2)] dX12_readChip_75 (by decide) rfl ?_
        refine aw_sub [2, 1, 0] rfl ?_
        exact A_X12_readChip_77 X hr 100000 1 (z_lit (x := 1) (by decide)) 0 (z_lit (x := 0) (by decide)) σ hf
    · rw [if_neg h6] at hf
      refine aw_aload_n X 0 dX12_readChip_47 rfl rfl ?_
      refine aw_iload_n X 1 dX12_readChip_48 rfl rfl ?_
      obtain ⟨q9, e10, hf⟩ := z_bd hf
      refine aw_callV X [z_i v1] [] [z_i q9.1] cX12_210 s_758 ciX12 (C_X12_readLine l D cA sa ad bs v1 c_v1 σ q9 e10) rfl ⟨(Nat.le_of_ble_eq_true rfl), (Nat.le_of_ble_eq_true rfl), (Nat.le_of_ble_eq_true rfl), (Nat.le_of_ble_eq_true rfl)⟩ rfl (Nat.le_of_ble_eq_true rfl) rfl dX12_readChip_49 (fun p11 => ?_)
      refine aw_istore_n X [(1, z_i q9.1), (0, .ref (ad 758)), (2, z_i v2)] dX12_readChip_52 rfl (by decide) rfl ?_
      refine aw_aload_n X 1 dX12_readChip_53 rfl rfl ?_
      obtain ⟨q12, e13, hf⟩ := z_bd hf
      refine aw_callV X [] [] [z_i q12.1] cX12_213 s_758 ciX12 (C_X12_goesOn l D cA sa ad bs q9.2 q12 e13) rfl ⟨(Nat.le_of_ble_eq_true rfl), (Nat.le_of_ble_eq_true rfl), (Nat.le_of_ble_eq_true rfl), (Nat.le_of_ble_eq_true rfl)⟩ rfl (Nat.le_of_ble_eq_true rfl) rfl dX12_readChip_54 (fun p14 => ?_)
      refine aw_istore_n X [(2, z_i q12.1), (1, z_i q9.1), (0, .ref (ad 758))] dX12_readChip_57 rfl (by decide) rfl ?_
      refine aw_goto X (tgt := 43) dX12_readChip_58 (by decide) ?_
      refine aw_sub [2, 1, 0] rfl ?_
      exact ih q9.1 p11 q12.1 (z_zI p14) q12.2 hf
set_option maxHeartbeats 4000000 in
set_option maxRecDepth 100000 in
theorem A_X12_readChip_2 (X : AX p s m args meth c D cA sa bs cX12_readChip 5 RX12) (hr : meth.sig.returnType = none) : ∀ (k : Nat) (v1 : Int) (c_v1 : Z_I v1) (σ : Nat → Nat → Int), f_X12_readChip_2 k v1 σ = some q → AW p l e (ax_rm 10 0 0) s m args below meth c D cA ad bs 788 SHp 0 0 (ax_MQ below args s D cA ad bs 788 SHp 0 0 none True q) 5 2 [(0, .ref (ad 758)), (1, z_i v1)] [] σ := by
  intro k
  induction k with
  | zero =>
    intro v1 c_v1 σ hf
    unfold f_X12_readChip_2 at hf
    cases hf
  | succ k ih =>
    intro v1 c_v1 σ hf
    unfold f_X12_readChip_2 at hf
    refine aw_iload_n X 1 dX12_readChip_2 rfl rfl ?_
    refine aw_bipush X dX12_readChip_3 (by decide) ?_
    refine aw_icmp_ge X (tgt := 24) c_v1 (z_lit (x := 6) (by decide)) dX12_readChip_5 (by decide) (fun h1 => ?_) (fun h1 => ?_)
    · rw [if_pos h1] at hf
      refine aw_aload_n X 0 dX12_readChip_24 rfl rfl ?_
      refine aw_iconst X dX12_readChip_25 ?_
      refine aw_putI X s_758 pX12_166 rfl (z_lit (x := 0) (by decide)) dX12_readChip_26 ?_
      refine aw_aload_n X 0 dX12_readChip_29 rfl rfl ?_
      refine aw_iconst X dX12_readChip_30 ?_
      refine aw_putI X s_758 pX12_173 rfl (z_lit (x := 0) (by decide)) dX12_readChip_31 ?_
      refine aw_aload_n X 0 dX12_readChip_34 rfl rfl ?_
      refine aw_iconst X dX12_readChip_35 ?_
      refine aw_putI X s_758 pX12_183 rfl (z_lit (x := 0) (by decide)) dX12_readChip_36 ?_
      refine aw_iconst X dX12_readChip_39 ?_
      refine aw_istore_n X [(1, z_i 0), (0, .ref (ad 758))] dX12_readChip_40 rfl (by decide) rfl ?_
      refine aw_iconst X dX12_readChip_41 ?_
      refine aw_istore_n X [(2, z_i 1), (1, z_i 0), (0, .ref (ad 758))] dX12_readChip_42 rfl (by decide) rfl ?_
      refine aw_sub [2, 1, 0] rfl ?_
      exact A_X12_readChip_43 X hr 100000 0 (z_lit (x := 0) (by decide)) 1 (z_lit (x := 1) (by decide)) (u2 (u2 (u2 σ 758 20 0) 758 22 0) 758 24 0) hf
    · rw [if_neg h1] at hf
      refine aw_aload_n X 0 dX12_readChip_8 rfl rfl ?_
      refine aw_getR X s_758 fX12_13 rfl dX12_readChip_9 ?_
      refine aw_iload_n X 1 dX12_readChip_12 rfl rfl ?_
      refine aw_iload_n X 1 dX12_readChip_13 rfl rfl ?_
      obtain ⟨q2, e3, hf⟩ := z_bd hf
      refine aw_callS X [z_i v1] [z_i v1, .ref (ad 760)] [z_i q2, z_i v1, .ref (ad 760)] cX12_207 (C_X12_usualRule l D cA sa ad bs v1 c_v1 σ q2 e3) rfl ⟨(Nat.le_of_ble_eq_true rfl), (Nat.le_of_ble_eq_true rfl), (Nat.le_of_ble_eq_true rfl), (Nat.le_of_ble_eq_true rfl)⟩ rfl (Nat.le_of_ble_eq_true rfl) rfl dX12_readChip_14 (fun p4 => ?_)
      obtain ⟨g5, hf⟩ := z_gd hf
      refine aw_iast X (j := v1.toNat) s_760 c_v1 g5.1 g5.2 rfl p4 dX12_readChip_17 ?_
      refine aw_iinc X 1 [(1, z_i (z_w (v1 + 1))), (0, .ref (ad 758))] dX12_readChip_18 rfl (by decide) rfl ?_
      refine aw_goto X (tgt := 2) dX12_readChip_21 (by decide) ?_
      refine aw_sub [1, 0] rfl ?_
      exact ih (z_w (v1 + 1)) (z_w_in _) (u2 σ 760 v1.toNat q2) hf
end S_X12_readChip
set_option maxHeartbeats 4000000 in
set_option maxRecDepth 100000 in
theorem C_X12_readChip (l : Launch) (D : va_G) (cA : Nat → ClassId) (sa ad : Nat → Nat) (bs : Nat)  (σ : Nat → Nat → Int) (q : (Nat → Nat → Int)) (hf : f_X12_readChip σ = some q) : AM l D cA sa ad bs 788 SHp yX12_readChip cX12_readChip 5 none 10 [.ref (ad 758)] σ none True q := by
  refine am_of (by decide +kernel) (Nat.le_of_ble_eq_true rfl) (fun p e s m args below meth c X hr => ?_)
  refine aw_lv (lv' := [(0, .ref (ad 758))]) rfl ?_
  unfold f_X12_readChip at hf
  refine aw_iconst X dX12_readChip_0 ?_
  refine aw_istore_n X [(1, z_i 0), (0, .ref (ad 758))] dX12_readChip_1 rfl (by decide) rfl ?_
  refine aw_sub [1, 0] rfl ?_
  exact A_X12_readChip_2 X hr 100000 0 (z_lit (x := 0) (by decide)) σ hf
-- SpeedDeskModel.readStep(I)V
section S_X12_readStep
variable {p : Program} {l : Launch} {e : Env} {s : State} {m : MethodId} {args : Array Value} {below : List Frame} {meth : Method} {c : Code} {D : va_G} {cA : Nat → ClassId} {sa ad : Nat → Nat} {bs : Nat} {q : (Nat → Nat → Int)}
set_option maxHeartbeats 4000000 in
set_option maxRecDepth 100000 in
theorem A_X12_readStep_153 (X : AX p s m args meth c D cA sa bs cX12_readStep 6 RX12) (hr : meth.sig.returnType = none) : ∀ (k : Nat) (v2 : Int) (c_v2 : Z_I v2) (v3 : Int) (c_v3 : Z_I v3) (v4 : Int) (c_v4 : Z_I v4) (v5 : Int) (c_v5 : Z_I v5) (σ : Nat → Nat → Int), f_X12_readStep_153 k v2 v3 v4 v5 σ = some q → AW p l e (ax_rm 7 0 0) s m args below meth c D cA ad bs 788 SHp 0 0 (ax_MQ below args s D cA ad bs 788 SHp 0 0 none True q) 6 153 [(0, .ref (ad 758)), (2, z_i v2), (3, z_i v3), (4, z_i v4), (5, z_i v5)] [] σ := by
  intro k
  induction k with
  | zero =>
    intro v2 c_v2 v3 c_v3 v4 c_v4 v5 c_v5 σ hf
    unfold f_X12_readStep_153 at hf
    cases hf
  | succ k ih =>
    intro v2 c_v2 v3 c_v3 v4 c_v4 v5 c_v5 σ hf
    unfold f_X12_readStep_153 at hf
    refine aw_iload X 4 dX12_readStep_153 rfl ?_
    refine aw_iload X 3 dX12_readStep_155 rfl ?_
    refine aw_icmp_gt X (tgt := 196) c_v5 c_v4 dX12_readStep_157 (by decide) (fun h32 => ?_) (fun h32 => ?_)
    · rw [if_pos h32] at hf
      obtain rfl := Option.some.inj hf
      exact aw_vret X trivial hr rfl dX12_readStep_196
    · rw [if_neg h32] at hf
      refine aw_aload_n X 0 dX12_readStep_160 rfl rfl ?_
      refine aw_getR X s_758 fX12_54 rfl dX12_readStep_161 ?_
      refine aw_iload_n X 1 dX12_readStep_164 rfl rfl ?_
      refine aw_iload X 4 dX12_readStep_165 rfl ?_
      refine aw_iadd X dX12_readStep_167 ?_
      refine aw_iload_n X 2 dX12_readStep_168 rfl rfl ?_
      refine aw_if_ne X (tgt := 182) c_v3 dX12_readStep_169 (by decide) (fun h33 => ?_) (fun h33 => ?_)
      · rw [if_neg h33] at hf
        refine aw_aload_n X 0 dX12_readStep_182 rfl rfl ?_
        refine aw_iconst X dX12_readStep_183 ?_
        refine aw_bipush X dX12_readStep_184 (by decide) ?_
        obtain ⟨q34, e35, hf⟩ := z_bd hf
        refine aw_callV X [z_i 0, z_i 9] [z_i (z_w (v2 + v5)), .ref (ad 773)] [z_i q34.1, z_i (z_w (v2 + v5)), .ref (ad 773)] cX12_179 s_758 ciX12 (C_X12_number l D cA sa ad bs 0 (z_lit (x := 0) (by decide)) 9 (z_lit (x := 9) (by decide)) σ q34 e35) rfl ⟨(Nat.le_of_ble_eq_true rfl), (Nat.le_of_ble_eq_true rfl), (Nat.le_of_ble_eq_true rfl), (Nat.le_of_ble_eq_true rfl)⟩ rfl (Nat.le_of_ble_eq_true rfl) rfl dX12_readStep_186 (fun p36 => ?_)
        obtain ⟨g37, hf⟩ := z_gd hf
        refine aw_iast X (j := (z_w (v2 + v5)).toNat) s_773 (z_w_in _) g37.1 g37.2 rfl p36 dX12_readStep_189 ?_
        refine aw_iinc X 4 [(5, z_i (z_w (v5 + 1))), (0, .ref (ad 758)), (2, z_i v2), (3, z_i v3), (4, z_i v4)] dX12_readStep_190 rfl (by decide) rfl ?_
        refine aw_goto X (tgt := 153) dX12_readStep_193 (by decide) ?_
        refine aw_sub [1, 2, 3, 4, 0] rfl ?_
        exact ih v2 c_v2 v3 c_v3 v4 c_v4 (z_w (v5 + 1)) (z_w_in _) (u2 q34.2 773 (z_w (v2 + v5)).toNat q34.1) hf
      · rw [if_pos h33] at hf
        refine aw_aload_n X 0 dX12_readStep_172 rfl rfl ?_
        refine aw_iconst X dX12_readStep_173 ?_
        refine aw_bipush X dX12_readStep_174 (by decide) ?_
        obtain ⟨q38, e39, hf⟩ := z_bd hf
        refine aw_callV X [z_i 1, z_i 60] [z_i (z_w (v2 + v5)), .ref (ad 773)] [z_i q38.1, z_i (z_w (v2 + v5)), .ref (ad 773)] cX12_179 s_758 ciX12 (C_X12_number l D cA sa ad bs 1 (z_lit (x := 1) (by decide)) 60 (z_lit (x := 60) (by decide)) σ q38 e39) rfl ⟨(Nat.le_of_ble_eq_true rfl), (Nat.le_of_ble_eq_true rfl), (Nat.le_of_ble_eq_true rfl), (Nat.le_of_ble_eq_true rfl)⟩ rfl (Nat.le_of_ble_eq_true rfl) rfl dX12_readStep_176 (fun p40 => ?_)
        refine aw_goto X (tgt := 189) dX12_readStep_179 (by decide) ?_
        obtain ⟨g41, hf⟩ := z_gd hf
        refine aw_iast X (j := (z_w (v2 + v5)).toNat) s_773 (z_w_in _) g41.1 g41.2 rfl p40 dX12_readStep_189 ?_
        refine aw_iinc X 4 [(5, z_i (z_w (v5 + 1))), (0, .ref (ad 758)), (2, z_i v2), (3, z_i v3), (4, z_i v4)] dX12_readStep_190 rfl (by decide) rfl ?_
        refine aw_goto X (tgt := 153) dX12_readStep_193 (by decide) ?_
        refine aw_sub [1, 2, 3, 4, 0] rfl ?_
        exact ih v2 c_v2 v3 c_v3 v4 c_v4 (z_w (v5 + 1)) (z_w_in _) (u2 q38.2 773 (z_w (v2 + v5)).toNat q38.1) hf
set_option maxHeartbeats 4000000 in
set_option maxRecDepth 100000 in
theorem A_X12_readStep_119 (X : AX p s m args meth c D cA sa bs cX12_readStep 6 RX12) (hr : meth.sig.returnType = none) (v2 : Int) (c_v2 : Z_I v2) (v3 : Int) (c_v3 : Z_I v3) (σ : Nat → Nat → Int) (hf : f_X12_readStep_119 v2 v3 σ = some q) : AW p l e (ax_rm 7 0 0) s m args below meth c D cA ad bs 788 SHp 0 0 (ax_MQ below args s D cA ad bs 788 SHp 0 0 none True q) 6 119 [(0, .ref (ad 758)), (2, z_i v2), (3, z_i v3)] [] σ := by
  unfold f_X12_readStep_119 at hf
  refine aw_iload_n X 2 dX12_readStep_119 rfl rfl ?_
  refine aw_bipush X dX12_readStep_120 (by decide) ?_
  refine aw_icmp_ne X (tgt := 129) c_v3 (z_lit (x := 6) (by decide)) dX12_readStep_122 (by decide) (fun h29 => ?_) (fun h29 => ?_)
  · simp only [if_neg h29] at hf
    refine aw_iload_n X 2 dX12_readStep_129 rfl rfl ?_
    refine aw_iconst X dX12_readStep_130 ?_
    refine aw_icmp_ne X (tgt := 138) c_v3 (z_lit (x := 1) (by decide)) dX12_readStep_131 (by decide) (fun h30 => ?_) (fun h30 => ?_)
    · simp only [if_neg h30] at hf
      refine aw_iload_n X 2 dX12_readStep_138 rfl rfl ?_
      refine aw_iconst X dX12_readStep_139 ?_
      refine aw_icmp_ne X (tgt := 147) c_v3 (z_lit (x := 2) (by decide)) dX12_readStep_140 (by decide) (fun h31 => ?_) (fun h31 => ?_)
      · simp only [if_neg h31] at hf
        refine aw_iconst X dX12_readStep_147 ?_
        refine aw_istore X [(4, z_i 1), (0, .ref (ad 758)), (2, z_i v2), (3, z_i v3)] dX12_readStep_148 (by decide) rfl ?_
        refine aw_iconst X dX12_readStep_150 ?_
        refine aw_istore X [(5, z_i 1), (4, z_i 1), (0, .ref (ad 758)), (2, z_i v2), (3, z_i v3)] dX12_readStep_151 (by decide) rfl ?_
        refine aw_sub [2, 3, 4, 1, 0] rfl ?_
        exact A_X12_readStep_153 X hr 100000 v2 c_v2 v3 c_v3 1 (z_lit (x := 1) (by decide)) 1 (z_lit (x := 1) (by decide)) σ hf
      · simp only [if_pos h31] at hf
        refine aw_iconst X dX12_readStep_143 ?_
        refine aw_goto X (tgt := 148) dX12_readStep_144 (by decide) ?_
        refine aw_istore X [(4, z_i 3), (0, .ref (ad 758)), (2, z_i v2), (3, z_i v3)] dX12_readStep_148 (by decide) rfl ?_
        refine aw_iconst X dX12_readStep_150 ?_
        refine aw_istore X [(5, z_i 1), (4, z_i 3), (0, .ref (ad 758)), (2, z_i v2), (3, z_i v3)] dX12_readStep_151 (by decide) rfl ?_
        refine aw_sub [2, 3, 4, 1, 0] rfl ?_
        exact A_X12_readStep_153 X hr 100000 v2 c_v2 v3 c_v3 3 (z_lit (x := 3) (by decide)) 1 (z_lit (x := 1) (by decide)) σ hf
    · simp only [if_pos h30] at hf
      refine aw_iconst X dX12_readStep_134 ?_
      refine aw_goto X (tgt := 148) dX12_readStep_135 (by decide) ?_
      refine aw_istore X [(4, z_i 2), (0, .ref (ad 758)), (2, z_i v2), (3, z_i v3)] dX12_readStep_148 (by decide) rfl ?_
      refine aw_iconst X dX12_readStep_150 ?_
      refine aw_istore X [(5, z_i 1), (4, z_i 2), (0, .ref (ad 758)), (2, z_i v2), (3, z_i v3)] dX12_readStep_151 (by decide) rfl ?_
      refine aw_sub [2, 3, 4, 1, 0] rfl ?_
      exact A_X12_readStep_153 X hr 100000 v2 c_v2 v3 c_v3 2 (z_lit (x := 2) (by decide)) 1 (z_lit (x := 1) (by decide)) σ hf
  · simp only [if_pos h29] at hf
    refine aw_iconst X dX12_readStep_125 ?_
    refine aw_goto X (tgt := 148) dX12_readStep_126 (by decide) ?_
    refine aw_istore X [(4, z_i 0), (0, .ref (ad 758)), (2, z_i v2), (3, z_i v3)] dX12_readStep_148 (by decide) rfl ?_
    refine aw_iconst X dX12_readStep_150 ?_
    refine aw_istore X [(5, z_i 1), (4, z_i 0), (0, .ref (ad 758)), (2, z_i v2), (3, z_i v3)] dX12_readStep_151 (by decide) rfl ?_
    refine aw_sub [2, 3, 4, 1, 0] rfl ?_
    exact A_X12_readStep_153 X hr 100000 v2 c_v2 v3 c_v3 0 (z_lit (x := 0) (by decide)) 1 (z_lit (x := 1) (by decide)) σ hf
set_option maxHeartbeats 4000000 in
set_option maxRecDepth 100000 in
theorem A_X12_readStep_102 (X : AX p s m args meth c D cA sa bs cX12_readStep 6 RX12) (hr : meth.sig.returnType = none) (v1 : Int) (c_v1 : Z_I v1) (v2 : Int) (c_v2 : Z_I v2) (v3 : Int) (c_v3 : Z_I v3) (σ : Nat → Nat → Int) (hf : f_X12_readStep_102 v1 v2 v3 σ = some q) : AW p l e (ax_rm 7 0 0) s m args below meth c D cA ad bs 788 SHp 0 0 (ax_MQ below args s D cA ad bs 788 SHp 0 0 none True q) 6 102 [(0, .ref (ad 758)), (1, z_i v1), (2, z_i v2), (3, z_i v3)] [] σ := by
  unfold f_X12_readStep_102 at hf
  refine aw_aload_n X 0 dX12_readStep_102 rfl rfl ?_
  obtain ⟨q24, e25, hf⟩ := z_bd hf
  refine aw_callV X [] [] [] cX12_160 s_758 ciX12 (C_X12_word l D cA sa ad bs σ q24 e25) rfl ⟨(Nat.le_of_ble_eq_true rfl), (Nat.le_of_ble_eq_true rfl), (Nat.le_of_ble_eq_true rfl), (Nat.le_of_ble_eq_true rfl)⟩ rfl (Nat.le_of_ble_eq_true rfl) rfl dX12_readStep_103 (fun p26 => ?_)
  refine aw_aload_n X 0 dX12_readStep_106 rfl rfl ?_
  refine aw_getR X s_758 fX12_60 rfl dX12_readStep_107 ?_
  refine aw_bipush X dX12_readStep_110 (by decide) ?_
  refine aw_iload_n X 1 dX12_readStep_112 rfl rfl ?_
  refine aw_iadd X dX12_readStep_113 ?_
  refine aw_aload_n X 0 dX12_readStep_114 rfl rfl ?_
  refine aw_getL X s_758 fX12_139 rfl dX12_readStep_115 (fun c27 => ?_)
  obtain ⟨g28, hf⟩ := z_gd hf
  refine aw_last X (j := (z_w (48 + v1)).toNat) s_775 (z_w_in _) g28.1 g28.2 rfl c27 dX12_readStep_118 ?_
  refine aw_sub [0, 2, 3] rfl ?_
  exact A_X12_readStep_119 X hr v2 c_v2 v3 c_v3 (u2 q24 775 (z_w (48 + v1)).toNat (q24 758 6)) hf
set_option maxHeartbeats 4000000 in
set_option maxRecDepth 100000 in
theorem A_X12_readStep_76 (X : AX p s m args meth c D cA sa bs cX12_readStep 6 RX12) (hr : meth.sig.returnType = none) (v1 : Int) (c_v1 : Z_I v1) (v2 : Int) (c_v2 : Z_I v2) (v3 : Int) (c_v3 : Z_I v3) (σ : Nat → Nat → Int) (hf : f_X12_readStep_76 v1 v2 v3 σ = some q) : AW p l e (ax_rm 7 0 0) s m args below meth c D cA ad bs 788 SHp 0 0 (ax_MQ below args s D cA ad bs 788 SHp 0 0 none True q) 6 76 [(0, .ref (ad 758)), (1, z_i v1), (2, z_i v2), (3, z_i v3)] [] σ := by
  unfold f_X12_readStep_76 at hf
  refine aw_aload_n X 0 dX12_readStep_76 rfl rfl ?_
  refine aw_getI X s_758 fX12_122 rfl dX12_readStep_77 (fun c19 => ?_)
  refine aw_iconst X dX12_readStep_80 ?_
  refine aw_icmp_eq X (tgt := 85) c19 (z_lit (x := (-1)) (by decide)) dX12_readStep_81 (by decide) (fun h20 => ?_) (fun h20 => ?_)
  · rw [if_pos h20] at hf
    refine aw_aload_n X 0 dX12_readStep_85 rfl rfl ?_
    refine aw_getR X s_758 fX12_54 rfl dX12_readStep_86 ?_
    refine aw_iload_n X 2 dX12_readStep_89 rfl rfl ?_
    refine aw_iload_n X 3 dX12_readStep_90 rfl rfl ?_
    obtain ⟨g21, hf⟩ := z_gd hf
    refine aw_iast X (j := v2.toNat) s_773 c_v2 g21.1 g21.2 rfl c_v3 dX12_readStep_91 ?_
    refine aw_iload_n X 3 dX12_readStep_92 rfl rfl ?_
    refine aw_iconst X dX12_readStep_93 ?_
    refine aw_icmp_eq X (tgt := 102) c_v3 (z_lit (x := 2) (by decide)) dX12_readStep_94 (by decide) (fun h22 => ?_) (fun h22 => ?_)
    · rw [if_pos h22] at hf
      exact A_X12_readStep_102 X hr v1 c_v1 v2 c_v2 v3 c_v3 (u2 σ 773 v2.toNat v3) hf
    · rw [if_neg h22] at hf
      refine aw_iload_n X 3 dX12_readStep_97 rfl rfl ?_
      refine aw_iconst X dX12_readStep_98 ?_
      refine aw_icmp_ne X (tgt := 119) c_v3 (z_lit (x := 3) (by decide)) dX12_readStep_99 (by decide) (fun h23 => ?_) (fun h23 => ?_)
      · rw [if_neg h23] at hf
        refine aw_sub [0, 2, 3] rfl ?_
        exact A_X12_readStep_119 X hr v2 c_v2 v3 c_v3 (u2 σ 773 v2.toNat v3) hf
      · rw [if_pos h23] at hf
        exact A_X12_readStep_102 X hr v1 c_v1 v2 c_v2 v3 c_v3 (u2 σ 773 v2.toNat v3) hf
  · rw [if_neg h20] at hf
    obtain rfl := Option.some.inj hf
    exact aw_vret X trivial hr rfl dX12_readStep_84
set_option maxHeartbeats 4000000 in
set_option maxRecDepth 100000 in
theorem A_X12_readStep_55 (X : AX p s m args meth c D cA sa bs cX12_readStep 6 RX12) (hr : meth.sig.returnType = none) (v1 : Int) (c_v1 : Z_I v1) (v2 : Int) (c_v2 : Z_I v2) (t0 : Int) (c_t0 : Z_I t0) (σ : Nat → Nat → Int) (hf : f_X12_readStep_55 v1 v2 t0 σ = some q) : AW p l e (ax_rm 7 0 0) s m args below meth c D cA ad bs 788 SHp 0 0 (ax_MQ below args s D cA ad bs 788 SHp 0 0 none True q) 6 55 [(0, .ref (ad 758)), (1, z_i v1), (2, z_i v2)] [z_i t0] σ := by
  unfold f_X12_readStep_55 at hf
  refine aw_istore_n X [(3, z_i t0), (0, .ref (ad 758)), (1, z_i v1), (2, z_i v2)] dX12_readStep_55 rfl (by decide) rfl ?_
  refine aw_aload_n X 1 dX12_readStep_56 rfl rfl ?_
  refine aw_getI X s_758 fX12_122 rfl dX12_readStep_57 (fun c12 => ?_)
  refine aw_iconst X dX12_readStep_60 ?_
  refine aw_icmp_ne X (tgt := 76) c12 (z_lit (x := (-1)) (by decide)) dX12_readStep_61 (by decide) (fun h13 => ?_) (fun h13 => ?_)
  · rw [if_neg h13] at hf
    refine aw_sub [1, 2, 3, 0] rfl ?_
    exact A_X12_readStep_76 X hr v1 c_v1 v2 c_v2 t0 c_t0 σ hf
  · rw [if_pos h13] at hf
    refine aw_iload_n X 0 dX12_readStep_64 rfl rfl ?_
    refine aw_if_ge X (tgt := 76) c_t0 dX12_readStep_65 (by decide) (fun h14 => ?_) (fun h14 => ?_)
    · rw [if_pos h14] at hf
      refine aw_sub [1, 2, 3, 0] rfl ?_
      exact A_X12_readStep_76 X hr v1 c_v1 v2 c_v2 t0 c_t0 σ hf
    · rw [if_neg h14] at hf
      refine aw_aload_n X 1 dX12_readStep_68 rfl rfl ?_
      refine aw_aload_n X 1 dX12_readStep_69 rfl rfl ?_
      refine aw_getI X s_758 fX12_136 rfl dX12_readStep_70 (fun c15 => ?_)
      obtain ⟨q16, e17, hf⟩ := z_bd hf
      refine aw_callV X [z_i (σ 758 5)] [] [] cX12_147 s_758 ciX12 (C_X12_fails l D cA sa ad bs (σ 758 5) c15 σ q16 e17) rfl ⟨(Nat.le_of_ble_eq_true rfl), (Nat.le_of_ble_eq_true rfl), (Nat.le_of_ble_eq_true rfl), (Nat.le_of_ble_eq_true rfl)⟩ rfl (Nat.le_of_ble_eq_true rfl) rfl dX12_readStep_73 (fun p18 => ?_)
      refine aw_sub [1, 2, 3, 0] rfl ?_
      exact A_X12_readStep_76 X hr v1 c_v1 v2 c_v2 t0 c_t0 q16 hf
set_option maxHeartbeats 4000000 in
set_option maxRecDepth 100000 in
theorem A_X12_readStep_9 (X : AX p s m args meth c D cA sa bs cX12_readStep 6 RX12) (hr : meth.sig.returnType = none) : ∀ (k : Nat) (v1 : Int) (c_v1 : Z_I v1) (v2 : Int) (c_v2 : Z_I v2) (v3 : Int) (c_v3 : Z_I v3) (σ : Nat → Nat → Int), f_X12_readStep_9 k v1 v2 v3 σ = some q → AW p l e (ax_rm 7 0 0) s m args below meth c D cA ad bs 788 SHp 0 0 (ax_MQ below args s D cA ad bs 788 SHp 0 0 none True q) 6 9 [(0, .ref (ad 758)), (1, z_i v1), (2, z_i v2), (3, z_i v3)] [] σ := by
  intro k
  induction k with
  | zero =>
    intro v1 c_v1 v2 c_v2 v3 c_v3 σ hf
    unfold f_X12_readStep_9 at hf
    cases hf
  | succ k ih =>
    intro v1 c_v1 v2 c_v2 v3 c_v3 σ hf
    unfold f_X12_readStep_9 at hf
    refine aw_iload_n X 3 dX12_readStep_9 rfl rfl ?_
    refine aw_iconst X dX12_readStep_10 ?_
    refine aw_icmp_ge X (tgt := 29) c_v3 (z_lit (x := 4) (by decide)) dX12_readStep_11 (by decide) (fun h1 => ?_) (fun h1 => ?_)
    · rw [if_pos h1] at hf
      refine aw_aload_n X 0 dX12_readStep_29 rfl rfl ?_
      obtain ⟨q2, e3, hf⟩ := z_bd hf
      refine aw_callV X [] [] [] cX12_160 s_758 ciX12 (C_X12_word l D cA sa ad bs σ q2 e3) rfl ⟨(Nat.le_of_ble_eq_true rfl), (Nat.le_of_ble_eq_true rfl), (Nat.le_of_ble_eq_true rfl), (Nat.le_of_ble_eq_true rfl)⟩ rfl (Nat.le_of_ble_eq_true rfl) rfl dX12_readStep_30 (fun p4 => ?_)
      refine aw_aload_n X 0 dX12_readStep_33 rfl rfl ?_
      refine aw_getI X s_758 fX12_122 rfl dX12_readStep_34 (fun c5 => ?_)
      refine aw_iconst X dX12_readStep_37 ?_
      refine aw_icmp_ne X (tgt := 54) c5 (z_lit (x := (-1)) (by decide)) dX12_readStep_38 (by decide) (fun h6 => ?_) (fun h6 => ?_)
      · rw [if_neg h6] at hf
        refine aw_iconst X dX12_readStep_54 ?_
        refine aw_sub [0, 1, 2] rfl ?_
        exact A_X12_readStep_55 X hr v1 c_v1 v2 c_v2 (-1) (z_lit (x := (-1)) (by decide)) q2 hf
      · rw [if_pos h6] at hf
        refine aw_aload_n X 0 dX12_readStep_41 rfl rfl ?_
        refine aw_getL X s_758 fX12_139 rfl dX12_readStep_42 (fun c7 => ?_)
        obtain ⟨q8, e9, hf⟩ := z_bd hf
        refine aw_callS X [z_v (q2 758 6)] [] [z_i q8] cX12_162 (C_X12_known l D cA sa ad bs (q2 758 6) c7 q2 q8 e9) rfl ⟨(Nat.le_of_ble_eq_true rfl), (Nat.le_of_ble_eq_true rfl), (Nat.le_of_ble_eq_true rfl), (Nat.le_of_ble_eq_true rfl)⟩ rfl (Nat.le_of_ble_eq_true rfl) rfl dX12_readStep_45 (fun p10 => ?_)
        refine aw_bipush X dX12_readStep_48 (by decide) ?_
        refine aw_isub X dX12_readStep_50 ?_
        refine aw_goto X (tgt := 55) dX12_readStep_51 (by decide) ?_
        refine aw_sub [0, 1, 2] rfl ?_
        exact A_X12_readStep_55 X hr v1 c_v1 v2 c_v2 (z_w (q8 - 9)) (z_w_in _) q2 hf
    · rw [if_neg h1] at hf
      refine aw_aload_n X 0 dX12_readStep_14 rfl rfl ?_
      refine aw_getR X s_758 fX12_54 rfl dX12_readStep_15 ?_
      refine aw_iload_n X 2 dX12_readStep_18 rfl rfl ?_
      refine aw_iload_n X 3 dX12_readStep_19 rfl rfl ?_
      refine aw_iadd X dX12_readStep_20 ?_
      refine aw_iconst X dX12_readStep_21 ?_
      obtain ⟨g11, hf⟩ := z_gd hf
      refine aw_iast X (j := (z_w (v2 + v3)).toNat) s_773 (z_w_in _) g11.1 g11.2 rfl (z_lit (x := (-1)) (by decide)) dX12_readStep_22 ?_
      refine aw_iinc X 3 [(3, z_i (z_w (v3 + 1))), (0, .ref (ad 758)), (1, z_i v1), (2, z_i v2)] dX12_readStep_23 rfl (by decide) rfl ?_
      refine aw_goto X (tgt := 9) dX12_readStep_26 (by decide) ?_
      refine aw_sub [1, 2, 3, 0] rfl ?_
      exact ih v1 c_v1 v2 c_v2 (z_w (v3 + 1)) (z_w_in _) (u2 σ 773 (z_w (v2 + v3)).toNat (-1)) hf
end S_X12_readStep
set_option maxHeartbeats 4000000 in
set_option maxRecDepth 100000 in
theorem C_X12_readStep (l : Launch) (D : va_G) (cA : Nat → ClassId) (sa ad : Nat → Nat) (bs : Nat) (v1 : Int) (c_v1 : Z_I v1) (σ : Nat → Nat → Int) (q : (Nat → Nat → Int)) (hf : f_X12_readStep v1 σ = some q) : AM l D cA sa ad bs 788 SHp yX12_readStep cX12_readStep 6 none 7 [.ref (ad 758), z_i v1] σ none True q := by
  refine am_of (by decide +kernel) (Nat.le_of_ble_eq_true rfl) (fun p e s m args below meth c X hr => ?_)
  refine aw_lv (lv' := [(0, .ref (ad 758)), (1, z_i v1)]) rfl ?_
  unfold f_X12_readStep at hf
  refine aw_iconst X dX12_readStep_0 ?_
  refine aw_bipush X dX12_readStep_1 (by decide) ?_
  refine aw_iload_n X 1 dX12_readStep_3 rfl rfl ?_
  refine aw_iadd X dX12_readStep_4 ?_
  refine aw_imul X dX12_readStep_5 ?_
  refine aw_istore_n X [(2, z_i (z_w (4 * (z_w (48 + v1))))), (0, .ref (ad 758)), (1, z_i v1)] dX12_readStep_6 rfl (by decide) rfl ?_
  refine aw_iconst X dX12_readStep_7 ?_
  refine aw_istore_n X [(3, z_i 1), (2, z_i (z_w (4 * (z_w (48 + v1))))), (0, .ref (ad 758)), (1, z_i v1)] dX12_readStep_8 rfl (by decide) rfl ?_
  refine aw_sub [2, 3, 1, 0] rfl ?_
  exact A_X12_readStep_9 X hr 100000 v1 c_v1 (z_w (4 * (z_w (48 + v1)))) (z_w_in _) 1 (z_lit (x := 1) (by decide)) σ hf
