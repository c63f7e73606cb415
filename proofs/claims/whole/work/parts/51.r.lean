-- SpeedDeskModel.works([II)I
section S_X12_works
variable {p : Program} {l : Launch} {e : Env} {s : State} {m : MethodId} {args : Array Value} {below : List Frame} {meth : Method} {c : Code} {D : va_G} {cA : Nat → ClassId} {sa ad : Nat → Nat} {bs : Nat} {q : (Int × (Nat → Nat → Int))}
set_option maxHeartbeats 4000000 in
set_option maxRecDepth 100000 in
theorem A_X12_works_176 (X : AX p s m args meth c D cA sa bs cX12_works 8 RX12) (hr : meth.sig.returnType = (some .int)) (a1 : Nat) (h_a1 : a1 < 788 ∧ SHp a1 = .inr (0, 256, [])) (v2 : Int) (c_v2 : Z_I v2) (v5 : Int) (c_v5 : Z_I v5) (v7 : Int) (c_v7 : Z_I v7) (t0 : Int) (c_t0 : Z_I t0) (t1 : Int) (c_t1 : Z_I t1) (b2 : Nat) (h_b2 : b2 < 788 ∧ SHp b2 = .inr (0, 256, [])) (σ : Nat → Nat → Int) (hf : f_X12_works_176 a1 v2 v5 v7 t0 t1 b2 σ = some q) : AW p l e (ax_rm 2 0 0) s m args below meth c D cA ad bs 788 SHp 0 0 (ax_MQ below args s D cA ad bs 788 SHp 0 0 (some (z_i q.1)) (Z_I q.1) q.2) 8 176 [(0, .ref (ad 758)), (1, .ref (ad a1)), (2, z_i v2), (5, z_i v5), (7, z_i v7)] [z_i t0, z_i t1, .ref (ad b2)] σ := by
  unfold f_X12_works_176 at hf
  obtain ⟨g41, hf⟩ := z_gd hf
  refine aw_iast X (j := t1.toNat) h_b2 c_t1 g41.1 g41.2 rfl c_t0 dX12_works_176 ?_
  refine aw_iload X 3 dX12_works_177 rfl ?_
  refine aw_if_ne X (tgt := 204) c_v5 dX12_works_179 (by decide) (fun h42 => ?_) (fun h42 => ?_)
  · rw [if_neg h42] at hf
    refine aw_iload X 4 dX12_works_204 rfl ?_
    obtain rfl := Option.some.inj hf
    exact aw_iret X c_v7 hr rfl dX12_works_206
  · rw [if_pos h42] at hf
    refine aw_aload_n X 1 dX12_works_182 rfl rfl ?_
    refine aw_bipush X dX12_works_183 (by decide) ?_
    refine aw_iload_n X 2 dX12_works_185 rfl rfl ?_
    refine aw_iadd X dX12_works_186 ?_
    obtain ⟨g43, hf⟩ := z_gd hf
    refine aw_iald X (j := (z_w (15 + v2)).toNat) h_a1 (z_w_in _) g43.1 g43.2 rfl dX12_works_187 (fun c44 => ?_)
    refine aw_aload_n X 0 dX12_works_188 rfl rfl ?_
    refine aw_getR X s_758 fX12_17 rfl dX12_works_189 ?_
    refine aw_iconst X dX12_works_192 ?_
    refine aw_iald X (j := 2) s_761 (z_lit (x := 2) (by decide)) (by decide) (by decide) rfl dX12_works_193 (fun c45 => ?_)
    refine aw_icmp_lt X (tgt := 204) c44 c45 dX12_works_194 (by decide) (fun h46 => ?_) (fun h46 => ?_)
    · rw [if_pos h46] at hf
      refine aw_iload X 4 dX12_works_204 rfl ?_
      obtain rfl := Option.some.inj hf
      exact aw_iret X c_v7 hr rfl dX12_works_206
    · rw [if_neg h46] at hf
      refine aw_aload_n X 1 dX12_works_197 rfl rfl ?_
      refine aw_bipush X dX12_works_198 (by decide) ?_
      refine aw_iload_n X 2 dX12_works_200 rfl rfl ?_
      refine aw_iadd X dX12_works_201 ?_
      refine aw_iconst X dX12_works_202 ?_
      obtain ⟨g47, hf⟩ := z_gd hf
      refine aw_iast X (j := (z_w (9 + v2)).toNat) h_a1 (z_w_in _) g47.1 g47.2 rfl (z_lit (x := 1) (by decide)) dX12_works_203 ?_
      refine aw_iload X 4 dX12_works_204 rfl ?_
      obtain rfl := Option.some.inj hf
      exact aw_iret X c_v7 hr rfl dX12_works_206
set_option maxHeartbeats 4000000 in
set_option maxRecDepth 100000 in
theorem A_X12_works_151 (X : AX p s m args meth c D cA sa bs cX12_works 8 RX12) (hr : meth.sig.returnType = (some .int)) (a1 : Nat) (h_a1 : a1 < 788 ∧ SHp a1 = .inr (0, 256, [])) (v2 : Int) (c_v2 : Z_I v2) (v5 : Int) (c_v5 : Z_I v5) (t0 : Int) (c_t0 : Z_I t0) (t1 : Int) (c_t1 : Z_I t1) (σ : Nat → Nat → Int) (hf : f_X12_works_151 a1 v2 v5 t0 t1 σ = some q) : AW p l e (ax_rm 2 0 0) s m args below meth c D cA ad bs 788 SHp 0 0 (ax_MQ below args s D cA ad bs 788 SHp 0 0 (some (z_i q.1)) (Z_I q.1) q.2) 8 151 [(0, .ref (ad 758)), (1, .ref (ad a1)), (2, z_i v2), (5, z_i v5)] [z_i t0, z_i t1] σ := by
  unfold f_X12_works_151 at hf
  refine aw_iadd X dX12_works_151 ?_
  refine aw_istore X [(7, z_i (z_w (t1 + t0))), (0, .ref (ad 758)), (1, .ref (ad a1)), (2, z_i v2), (5, z_i v5)] dX12_works_152 (by decide) rfl ?_
  refine aw_aload_n X 2 dX12_works_154 rfl rfl ?_
  refine aw_bipush X dX12_works_155 (by decide) ?_
  refine aw_iload_n X 3 dX12_works_157 rfl rfl ?_
  refine aw_iadd X dX12_works_158 ?_
  refine aw_iload X 4 dX12_works_159 rfl ?_
  refine aw_if_le X (tgt := 168) c_v5 dX12_works_161 (by decide) (fun h38 => ?_) (fun h38 => ?_)
  · rw [if_pos h38] at hf
    refine aw_aload_n X 2 dX12_works_168 rfl rfl ?_
    refine aw_bipush X dX12_works_169 (by decide) ?_
    refine aw_iload_n X 3 dX12_works_171 rfl rfl ?_
    refine aw_iadd X dX12_works_172 ?_
    obtain ⟨g39, hf⟩ := z_gd hf
    refine aw_iald X (j := (z_w (15 + v2)).toNat) h_a1 (z_w_in _) g39.1 g39.2 rfl dX12_works_173 (fun c40 => ?_)
    refine aw_iconst X dX12_works_174 ?_
    refine aw_iadd X dX12_works_175 ?_
    refine aw_sub [1, 2, 3, 4, 0] rfl ?_
    exact A_X12_works_176 X hr a1 h_a1 v2 c_v2 v5 c_v5 (z_w (t1 + t0)) (z_w_in _) (z_w ((σ a1 (z_w (15 + v2)).toNat) + 1)) (z_w_in _) (z_w (15 + v2)) (z_w_in _) a1 h_a1 σ hf
  · rw [if_neg h38] at hf
    refine aw_iconst X dX12_works_164 ?_
    refine aw_goto X (tgt := 176) dX12_works_165 (by decide) ?_
    refine aw_sub [1, 2, 3, 4, 0] rfl ?_
    exact A_X12_works_176 X hr a1 h_a1 v2 c_v2 v5 c_v5 (z_w (t1 + t0)) (z_w_in _) 0 (z_lit (x := 0) (by decide)) (z_w (15 + v2)) (z_w_in _) a1 h_a1 σ hf
set_option maxHeartbeats 4000000 in
set_option maxRecDepth 100000 in
theorem A_X12_works_115 (X : AX p s m args meth c D cA sa bs cX12_works 8 RX12) (hr : meth.sig.returnType = (some .int)) (a1 : Nat) (h_a1 : a1 < 788 ∧ SHp a1 = .inr (0, 256, [])) (v2 : Int) (c_v2 : Z_I v2) (v3 : Int) (c_v3 : Z_I v3) (v5 : Int) (c_v5 : Z_I v5) (σ : Nat → Nat → Int) (hf : f_X12_works_115 a1 v2 v3 v5 σ = some q) : AW p l e (ax_rm 2 0 0) s m args below meth c D cA ad bs 788 SHp 0 0 (ax_MQ below args s D cA ad bs 788 SHp 0 0 (some (z_i q.1)) (Z_I q.1) q.2) 8 115 [(0, .ref (ad 758)), (1, .ref (ad a1)), (2, z_i v2), (3, z_i v3), (5, z_i v5)] [] σ := by
  unfold f_X12_works_115 at hf
  refine aw_iload X 4 dX12_works_115 rfl ?_
  refine aw_aload_n X 0 dX12_works_117 rfl rfl ?_
  refine aw_iload_n X 3 dX12_works_118 rfl rfl ?_
  refine aw_aload_n X 1 dX12_works_119 rfl rfl ?_
  refine aw_iconst X dX12_works_120 ?_
  refine aw_iload_n X 3 dX12_works_121 rfl rfl ?_
  refine aw_iadd X dX12_works_122 ?_
  obtain ⟨g19, hf⟩ := z_gd hf
  refine aw_iald X (j := (z_w (0 + v3)).toNat) h_a1 (z_w_in _) g19.1 g19.2 rfl dX12_works_123 (fun c20 => ?_)
  obtain ⟨q21, e22, hf⟩ := z_bd hf
  refine aw_callV X [z_i v3, z_i (σ a1 (z_w (0 + v3)).toNat)] [z_i v5] [z_i q21, z_i v5] cX12_316 s_758 ciX12 (C_X12_cost l D cA sa ad bs v3 c_v3 (σ a1 (z_w (0 + v3)).toNat) c20 σ q21 e22) rfl ⟨(Nat.le_of_ble_eq_true rfl), (Nat.le_of_ble_eq_true rfl), (Nat.le_of_ble_eq_true rfl), (Nat.le_of_ble_eq_true rfl)⟩ rfl (Nat.le_of_ble_eq_true rfl) rfl dX12_works_124 (fun p23 => ?_)
  refine aw_imul X dX12_works_127 ?_
  refine aw_aload_n X 1 dX12_works_128 rfl rfl ?_
  refine aw_bipush X dX12_works_129 (by decide) ?_
  refine aw_iload_n X 2 dX12_works_131 rfl rfl ?_
  refine aw_iadd X dX12_works_132 ?_
  obtain ⟨g24, hf⟩ := z_gd hf
  refine aw_iald X (j := (z_w (9 + v2)).toNat) h_a1 (z_w_in _) g24.1 g24.2 rfl dX12_works_133 (fun c25 => ?_)
  refine aw_if_ne X (tgt := 150) c25 dX12_works_134 (by decide) (fun h26 => ?_) (fun h26 => ?_)
  · rw [if_neg h26] at hf
    refine aw_iconst X dX12_works_150 ?_
    refine aw_sub [0, 1, 2, 4] rfl ?_
    exact A_X12_works_151 X hr a1 h_a1 v2 c_v2 v5 c_v5 0 (z_lit (x := 0) (by decide)) (z_w (v5 * q21)) (z_w_in _) σ hf
  · rw [if_pos h26] at hf
    refine aw_aload_n X 0 dX12_works_137 rfl rfl ?_
    refine aw_getR X s_758 fX12_23 rfl dX12_works_138 ?_
    refine aw_iconst X dX12_works_141 ?_
    refine aw_iload_n X 3 dX12_works_142 rfl rfl ?_
    refine aw_imul X dX12_works_143 ?_
    refine aw_iconst X dX12_works_144 ?_
    refine aw_iadd X dX12_works_145 ?_
    obtain ⟨g27, hf⟩ := z_gd hf
    refine aw_iald X (j := (z_w ((z_w (4 * v3)) + 1)).toNat) s_763 (z_w_in _) g27.1 g27.2 rfl dX12_works_146 (fun c28 => ?_)
    refine aw_goto X (tgt := 151) dX12_works_147 (by decide) ?_
    refine aw_sub [0, 1, 2, 4] rfl ?_
    exact A_X12_works_151 X hr a1 h_a1 v2 c_v2 v5 c_v5 (σ 763 (z_w ((z_w (4 * v3)) + 1)).toNat) c28 (z_w (v5 * q21)) (z_w_in _) σ hf
set_option maxHeartbeats 4000000 in
set_option maxRecDepth 100000 in
theorem A_X12_works_64 (X : AX p s m args meth c D cA sa bs cX12_works 8 RX12) (hr : meth.sig.returnType = (some .int)) (K29 : Nat → Int → Int → Int → Int → Int → (Nat → Nat → Int) → Option (Int × (Nat → Nat → Int))) (hK29 : ∀ (a1 : Nat) (h_a1 : a1 < 788 ∧ SHp a1 = .inr (0, 256, [])) (v2 : Int) (c_v2 : Z_I v2) (v3 : Int) (c_v3 : Z_I v3) (v4 : Int) (c_v4 : Z_I v4) (v5 : Int) (c_v5 : Z_I v5) (v6 : Int) (c_v6 : Z_I v6) (σ : Nat → Nat → Int), K29 a1 v2 v3 v4 v5 v6 σ = some q → AW p l e (ax_rm 2 0 0) s m args below meth c D cA ad bs 788 SHp 0 0 (ax_MQ below args s D cA ad bs 788 SHp 0 0 (some (z_i q.1)) (Z_I q.1) q.2) 8 29 [(0, .ref (ad 758)), (1, .ref (ad a1)), (2, z_i v2), (3, z_i v3), (4, z_i v4), (5, z_i v5), (6, z_i v6)] [] σ) (a1 : Nat) (h_a1 : a1 < 788 ∧ SHp a1 = .inr (0, 256, [])) (v2 : Int) (c_v2 : Z_I v2) (v3 : Int) (c_v3 : Z_I v3) (v4 : Int) (c_v4 : Z_I v4) (v5 : Int) (c_v5 : Z_I v5) (v6 : Int) (c_v6 : Z_I v6) (t0 : Int) (c_t0 : Z_I t0) (σ : Nat → Nat → Int) (hf : f_X12_works_64 K29 a1 v2 v3 v4 v5 v6 t0 σ = some q) : AW p l e (ax_rm 2 0 0) s m args below meth c D cA ad bs 788 SHp 0 0 (ax_MQ below args s D cA ad bs 788 SHp 0 0 (some (z_i q.1)) (Z_I q.1) q.2) 8 64 [(0, .ref (ad 758)), (1, .ref (ad a1)), (2, z_i v2), (3, z_i v3), (4, z_i v4), (5, z_i v5), (6, z_i v6)] [z_i t0] σ := by
  unfold f_X12_works_64 at hf
  refine aw_istore X [(7, z_i t0), (0, .ref (ad 758)), (1, .ref (ad a1)), (2, z_i v2), (3, z_i v3), (4, z_i v4), (5, z_i v5), (6, z_i v6)] dX12_works_64 (by decide) rfl ?_
  refine aw_aload_n X 2 dX12_works_66 rfl rfl ?_
  refine aw_bipush X dX12_works_67 (by decide) ?_
  refine aw_iload X 7 dX12_works_69 rfl ?_
  refine aw_iadd X dX12_works_71 ?_
  refine aw_dup2 X dX12_works_72 rfl rfl ?_
  obtain ⟨g29, hf⟩ := z_gd hf
  refine aw_iald X (j := (z_w (25 + v6)).toNat) h_a1 (z_w_in _) g29.1 g29.2 rfl dX12_works_73 (fun c30 => ?_)
  refine aw_iload X 0 dX12_works_74 rfl ?_
  refine aw_isub X dX12_works_76 ?_
  obtain ⟨g31, hf⟩ := z_gd hf
  refine aw_iast X (j := (z_w (25 + v6)).toNat) h_a1 (z_w_in _) g31.1 g31.2 rfl (z_w_in _) dX12_works_77 ?_
  refine aw_aload_n X 1 dX12_works_78 rfl rfl ?_
  refine aw_getR X s_758 fX12_79 rfl dX12_works_79 ?_
  refine aw_iload X 7 dX12_works_82 rfl ?_
  refine aw_dup2 X dX12_works_84 rfl rfl ?_
  obtain ⟨g32, hf⟩ := z_gd hf
  refine aw_iald X (j := v6.toNat) s_780 c_v6 g32.1 g32.2 rfl dX12_works_85 (fun c33 => ?_)
  refine aw_iload X 0 dX12_works_86 rfl ?_
  refine aw_iadd X dX12_works_88 ?_
  obtain ⟨g34, hf⟩ := z_gd hf
  refine aw_iast X (j := v6.toNat) s_780 c_v6 g34.1 g34.2 rfl (z_w_in _) dX12_works_89 ?_
  refine aw_iload X 6 dX12_works_90 rfl ?_
  refine aw_iload X 0 dX12_works_92 rfl ?_
  refine aw_iadd X dX12_works_94 ?_
  refine aw_istore X [(5, z_i (z_w (v5 + t0))), (7, z_i t0), (0, .ref (ad 758)), (1, .ref (ad a1)), (2, z_i v2), (3, z_i v3), (4, z_i v4), (6, z_i v6)] dX12_works_95 (by decide) rfl ?_
  refine aw_iload X 6 dX12_works_97 rfl ?_
  refine aw_iload X 1 dX12_works_99 rfl ?_
  refine aw_isub X dX12_works_101 ?_
  refine aw_istore X [(4, z_i (z_w (v4 - t0))), (5, z_i (z_w (v5 + t0))), (7, z_i t0), (0, .ref (ad 758)), (1, .ref (ad a1)), (2, z_i v2), (3, z_i v3), (6, z_i v6)] dX12_works_102 (by decide) rfl ?_
  refine aw_aload_n X 3 dX12_works_104 rfl rfl ?_
  refine aw_aload_n X 4 dX12_works_105 rfl rfl ?_
  refine aw_iload_n X 5 dX12_works_106 rfl rfl ?_
  obtain ⟨q35, e36, hf⟩ := z_bd hf
  refine aw_callV X [.ref (ad a1), z_i v2] [] [z_i q35] cX12_313 s_758 ciX12 (C_X12_nextOn l D cA sa ad bs a1 h_a1 v2 c_v2 (u2 (u2 σ a1 (z_w (25 + v6)).toNat (z_w ((σ a1 (z_w (25 + v6)).toNat) - t0))) 780 v6.toNat (z_w (((u2 σ a1 (z_w (25 + v6)).toNat (z_w ((σ a1 (z_w (25 + v6)).toNat) - t0))) 780 v6.toNat) + t0))) q35 e36) rfl ⟨(Nat.le_of_ble_eq_true rfl), (Nat.le_of_ble_eq_true rfl), (Nat.le_of_ble_eq_true rfl), (Nat.le_of_ble_eq_true rfl)⟩ rfl (Nat.le_of_ble_eq_true rfl) rfl dX12_works_107 (fun p37 => ?_)
  refine aw_istore X [(6, z_i q35), (4, z_i (z_w (v4 - t0))), (5, z_i (z_w (v5 + t0))), (7, z_i t0), (0, .ref (ad 758)), (1, .ref (ad a1)), (2, z_i v2), (3, z_i v3)] dX12_works_110 (by decide) rfl ?_
  refine aw_goto X (tgt := 29) dX12_works_112 (by decide) ?_
  refine aw_sub [4, 5, 6, 7, 1, 2, 0] rfl ?_
  exact hK29 a1 h_a1 v2 c_v2 v3 c_v3 (z_w (v4 - t0)) (z_w_in _) (z_w (v5 + t0)) (z_w_in _) q35 p37 (u2 (u2 σ a1 (z_w (25 + v6)).toNat (z_w ((σ a1 (z_w (25 + v6)).toNat) - t0))) 780 v6.toNat (z_w (((u2 σ a1 (z_w (25 + v6)).toNat (z_w ((σ a1 (z_w (25 + v6)).toNat) - t0))) 780 v6.toNat) + t0))) hf
set_option maxHeartbeats 4000000 in
set_option maxRecDepth 100000 in
theorem A_X12_works_29 (X : AX p s m args meth c D cA sa bs cX12_works 8 RX12) (hr : meth.sig.returnType = (some .int)) : ∀ (k : Nat) (a1 : Nat) (h_a1 : a1 < 788 ∧ SHp a1 = .inr (0, 256, [])) (v2 : Int) (c_v2 : Z_I v2) (v3 : Int) (c_v3 : Z_I v3) (v4 : Int) (c_v4 : Z_I v4) (v5 : Int) (c_v5 : Z_I v5) (v6 : Int) (c_v6 : Z_I v6) (σ : Nat → Nat → Int), f_X12_works_29 k a1 v2 v3 v4 v5 v6 σ = some q → AW p l e (ax_rm 2 0 0) s m args below meth c D cA ad bs 788 SHp 0 0 (ax_MQ below args s D cA ad bs 788 SHp 0 0 (some (z_i q.1)) (Z_I q.1) q.2) 8 29 [(0, .ref (ad 758)), (1, .ref (ad a1)), (2, z_i v2), (3, z_i v3), (4, z_i v4), (5, z_i v5), (6, z_i v6)] [] σ := by
  intro k
  induction k with
  | zero =>
    intro a1 h_a1 v2 c_v2 v3 c_v3 v4 c_v4 v5 c_v5 v6 c_v6 σ hf
    unfold f_X12_works_29 at hf
    cases hf
  | succ k ih =>
    intro a1 h_a1 v2 c_v2 v3 c_v3 v4 c_v4 v5 c_v5 v6 c_v6 σ hf
    unfold f_X12_works_29 at hf
    refine aw_iload X 4 dX12_works_29 rfl ?_
    refine aw_if_le X (tgt := 115) c_v4 dX12_works_31 (by decide) (fun h12 => ?_) (fun h12 => ?_)
    · rw [if_pos h12] at hf
      refine aw_sub [0, 1, 2, 3, 5] rfl ?_
      exact A_X12_works_115 X hr a1 h_a1 v2 c_v2 v3 c_v3 v5 c_v5 σ hf
    · rw [if_neg h12] at hf
      refine aw_iload X 6 dX12_works_34 rfl ?_
      refine aw_iconst X dX12_works_36 ?_
      refine aw_icmp_eq X (tgt := 115) c_v6 (z_lit (x := (-1)) (by decide)) dX12_works_37 (by decide) (fun h13 => ?_) (fun h13 => ?_)
      · rw [if_pos h13] at hf
        refine aw_sub [0, 1, 2, 3, 5] rfl ?_
        exact A_X12_works_115 X hr a1 h_a1 v2 c_v2 v3 c_v3 v5 c_v5 σ hf
      · rw [if_neg h13] at hf
        refine aw_aload_n X 1 dX12_works_40 rfl rfl ?_
        refine aw_bipush X dX12_works_41 (by decide) ?_
        refine aw_iload X 6 dX12_works_43 rfl ?_
        refine aw_iadd X dX12_works_45 ?_
        obtain ⟨g14, hf⟩ := z_gd hf
        refine aw_iald X (j := (z_w (25 + v6)).toNat) h_a1 (z_w_in _) g14.1 g14.2 rfl dX12_works_46 (fun c15 => ?_)
        refine aw_iload X 4 dX12_works_47 rfl ?_
        refine aw_icmp_ge X (tgt := 62) c15 c_v4 dX12_works_49 (by decide) (fun h16 => ?_) (fun h16 => ?_)
        · rw [if_pos h16] at hf
          refine aw_iload X 4 dX12_works_62 rfl ?_
          exact A_X12_works_64 X hr (f_X12_works_29 k) ih a1 h_a1 v2 c_v2 v3 c_v3 v4 c_v4 v5 c_v5 v6 c_v6 v4 c_v4 σ hf
        · rw [if_neg h16] at hf
          refine aw_aload_n X 1 dX12_works_52 rfl rfl ?_
          refine aw_bipush X dX12_works_53 (by decide) ?_
          refine aw_iload X 6 dX12_works_55 rfl ?_
          refine aw_iadd X dX12_works_57 ?_
          obtain ⟨g17, hf⟩ := z_gd hf
          refine aw_iald X (j := (z_w (25 + v6)).toNat) h_a1 (z_w_in _) g17.1 g17.2 rfl dX12_works_58 (fun c18 => ?_)
          refine aw_goto X (tgt := 64) dX12_works_59 (by decide) ?_
          exact A_X12_works_64 X hr (f_X12_works_29 k) ih a1 h_a1 v2 c_v2 v3 c_v3 v4 c_v4 v5 c_v5 v6 c_v6 (σ a1 (z_w (25 + v6)).toNat) c18 σ hf
end S_X12_works
set_option maxHeartbeats 4000000 in
set_option maxRecDepth 100000 in
theorem C_X12_works (l : Launch) (D : va_G) (cA : Nat → ClassId) (sa ad : Nat → Nat) (bs : Nat) (a1 : Nat) (h_a1 : a1 < 788 ∧ SHp a1 = .inr (0, 256, [])) (v2 : Int) (c_v2 : Z_I v2) (σ : Nat → Nat → Int) (q : (Int × (Nat → Nat → Int))) (hf : f_X12_works a1 v2 σ = some q) : AM l D cA sa ad bs 788 SHp yX12_works cX12_works 8 (some .int) 2 [.ref (ad 758), .ref (ad a1), z_i v2] σ (some (z_i q.1)) (Z_I q.1) q.2 := by
  refine am_of (by decide +kernel) (Nat.le_of_ble_eq_true rfl) (fun p e s m args below meth c X hr => ?_)
  refine aw_lv (lv' := [(0, .ref (ad 758)), (1, .ref (ad a1)), (2, z_i v2)]) rfl ?_
  unfold f_X12_works at hf
  refine aw_aload_n X 0 dX12_works_0 rfl rfl ?_
  refine aw_iload_n X 2 dX12_works_1 rfl rfl ?_
  obtain ⟨q1, e2, hf⟩ := z_bd hf
  refine aw_callV X [z_i v2] [] [z_i q1] cX12_303 s_758 ciX12 (C_X12_clusterOf l D cA sa ad bs v2 c_v2 σ q1 e2) rfl ⟨(Nat.le_of_ble_eq_true rfl), (Nat.le_of_ble_eq_true rfl), (Nat.le_of_ble_eq_true rfl), (Nat.le_of_ble_eq_true rfl)⟩ rfl (Nat.le_of_ble_eq_true rfl) rfl dX12_works_2 (fun p3 => ?_)
  refine aw_istore_n X [(3, z_i q1), (0, .ref (ad 758)), (1, .ref (ad a1)), (2, z_i v2)] dX12_works_5 rfl (by decide) rfl ?_
  refine aw_aload_n X 1 dX12_works_6 rfl rfl ?_
  refine aw_iload_n X 0 dX12_works_7 rfl rfl ?_
  refine aw_aload_n X 2 dX12_works_8 rfl rfl ?_
  refine aw_iconst X dX12_works_9 ?_
  refine aw_iload_n X 0 dX12_works_10 rfl rfl ?_
  refine aw_iadd X dX12_works_11 ?_
  obtain ⟨g4, hf⟩ := z_gd hf
  refine aw_iald X (j := (z_w (0 + q1)).toNat) h_a1 (z_w_in _) g4.1 g4.2 rfl dX12_works_12 (fun c5 => ?_)
  obtain ⟨q6, e7, hf⟩ := z_bd hf
  refine aw_callV X [z_i q1, z_i (σ a1 (z_w (0 + q1)).toNat)] [] [z_i q6] cX12_249 s_758 ciX12 (C_X12_speed l D cA sa ad bs q1 p3 (σ a1 (z_w (0 + q1)).toNat) c5 σ q6 e7) rfl ⟨(Nat.le_of_ble_eq_true rfl), (Nat.le_of_ble_eq_true rfl), (Nat.le_of_ble_eq_true rfl), (Nat.le_of_ble_eq_true rfl)⟩ rfl (Nat.le_of_ble_eq_true rfl) rfl dX12_works_13 (fun p8 => ?_)
  refine aw_istore X [(4, z_i q6), (3, z_i q1), (0, .ref (ad 758)), (1, .ref (ad a1)), (2, z_i v2)] dX12_works_16 (by decide) rfl ?_
  refine aw_iconst X dX12_works_18 ?_
  refine aw_istore X [(5, z_i 0), (4, z_i q6), (3, z_i q1), (0, .ref (ad 758)), (1, .ref (ad a1)), (2, z_i v2)] dX12_works_19 (by decide) rfl ?_
  refine aw_aload_n X 3 dX12_works_21 rfl rfl ?_
  refine aw_aload_n X 4 dX12_works_22 rfl rfl ?_
  refine aw_iload_n X 5 dX12_works_23 rfl rfl ?_
  obtain ⟨q9, e10, hf⟩ := z_bd hf
  refine aw_callV X [.ref (ad a1), z_i v2] [] [z_i q9] cX12_313 s_758 ciX12 (C_X12_nextOn l D cA sa ad bs a1 h_a1 v2 c_v2 σ q9 e10) rfl ⟨(Nat.le_of_ble_eq_true rfl), (Nat.le_of_ble_eq_true rfl), (Nat.le_of_ble_eq_true rfl), (Nat.le_of_ble_eq_true rfl)⟩ rfl (Nat.le_of_ble_eq_true rfl) rfl dX12_works_24 (fun p11 => ?_)
  refine aw_istore X [(6, z_i q9), (5, z_i 0), (4, z_i q6), (3, z_i q1), (0, .ref (ad 758)), (1, .ref (ad a1)), (2, z_i v2)] dX12_works_27 (by decide) rfl ?_
  refine aw_sub [4, 5, 6, 3, 2, 1, 0] rfl ?_
  exact A_X12_works_29 X hr 100000 a1 h_a1 v2 c_v2 q1 p3 q6 p8 0 (z_lit (x := 0) (by decide)) q9 p11 σ hf
-- SpeedDeskModel.ticks([I)I
section S_X12_ticks
variable {p : Program} {l : Launch} {e : Env} {s : State} {m : MethodId} {args : Array Value} {below : List Frame} {meth : Method} {c : Code} {D : va_G} {cA : Nat → ClassId} {sa ad : Nat → Nat} {bs : Nat} {q : (Int × (Nat → Nat → Int))}
set_option maxHeartbeats 4000000 in
set_option maxRecDepth 100000 in
theorem A_X12_ticks_78 (X : AX p s m args meth c D cA sa bs cX12_ticks 4 RX12) (hr : meth.sig.returnType = (some .int)) : ∀ (k : Nat) (a1 : Nat) (h_a1 : a1 < 788 ∧ SHp a1 = .inr (0, 256, [])) (v2 : Int) (c_v2 : Z_I v2) (v3 : Int) (c_v3 : Z_I v3) (σ : Nat → Nat → Int), f_X12_ticks_78 k a1 v2 v3 σ = some q → AW p l e (ax_rm 4 0 0) s m args below meth c D cA ad bs 788 SHp 0 0 (ax_MQ below args s D cA ad bs 788 SHp 0 0 (some (z_i q.1)) (Z_I q.1) q.2) 4 78 [(0, .ref (ad 758)), (1, .ref (ad a1)), (2, z_i v2), (3, z_i v3)] [] σ := by
  intro k
  induction k with
  | zero =>
    intro a1 h_a1 v2 c_v2 v3 c_v3 σ hf
    unfold f_X12_ticks_78 at hf
    cases hf
  | succ k ih =>
    intro a1 h_a1 v2 c_v2 v3 c_v3 σ hf
    unfold f_X12_ticks_78 at hf
    refine aw_iload_n X 3 dX12_ticks_78 rfl rfl ?_
    refine aw_aload_n X 0 dX12_ticks_79 rfl rfl ?_
    refine aw_getI X s_758 fX12_237 rfl dX12_ticks_80 (fun c17 => ?_)
    refine aw_icmp_ge X (tgt := 126) c_v3 c17 dX12_ticks_83 (by decide) (fun h18 => ?_) (fun h18 => ?_)
    · rw [if_pos h18] at hf
      refine aw_aload_n X 1 dX12_ticks_126 rfl rfl ?_
      refine aw_bipush X dX12_ticks_127 (by decide) ?_
      refine aw_dup2 X dX12_ticks_129 rfl rfl ?_
      refine aw_iald X (j := 42) h_a1 (z_lit (x := 42) (by decide)) (by decide) (by decide) rfl dX12_ticks_130 (fun c19 => ?_)
      refine aw_iload_n X 2 dX12_ticks_131 rfl rfl ?_
      refine aw_aload_n X 1 dX12_ticks_132 rfl rfl ?_
      refine aw_bipush X dX12_ticks_133 (by decide) ?_
      refine aw_iald X (j := 42) h_a1 (z_lit (x := 42) (by decide)) (by decide) (by decide) rfl dX12_ticks_135 (fun c20 => ?_)
      refine aw_aload_n X 0 dX12_ticks_136 rfl rfl ?_
      refine aw_getR X s_758 fX12_17 rfl dX12_ticks_137 ?_
      refine aw_iconst X dX12_ticks_140 ?_
      refine aw_iald X (j := 5) s_761 (z_lit (x := 5) (by decide)) (by decide) (by decide) rfl dX12_ticks_141 (fun c21 => ?_)
      obtain ⟨g22, hf⟩ := z_gd hf
      refine aw_idiv X c20 c21 g22 dX12_ticks_142 ?_
      refine aw_isub X dX12_ticks_143 ?_
      refine aw_iadd X dX12_ticks_144 ?_
      refine aw_iast X (j := 42) h_a1 (z_lit (x := 42) (by decide)) (by decide) (by decide) rfl (z_w_in _) dX12_ticks_145 ?_
      refine aw_aload_n X 1 dX12_ticks_146 rfl rfl ?_
      refine aw_bipush X dX12_ticks_147 (by decide) ?_
      refine aw_dup2 X dX12_ticks_149 rfl rfl ?_
      refine aw_iald X (j := 43) h_a1 (z_lit (x := 43) (by decide)) (by decide) (by decide) rfl dX12_ticks_150 (fun c23 => ?_)
      refine aw_iload_n X 2 dX12_ticks_151 rfl rfl ?_
      refine aw_iadd X dX12_ticks_152 ?_
      refine aw_iast X (j := 43) h_a1 (z_lit (x := 43) (by decide)) (by decide) (by decide) rfl (z_w_in _) dX12_ticks_153 ?_
      refine aw_aload_n X 1 dX12_ticks_154 rfl rfl ?_
      refine aw_bipush X dX12_ticks_155 (by decide) ?_
      refine aw_dup2 X dX12_ticks_157 rfl rfl ?_
      refine aw_iald X (j := 41) h_a1 (z_lit (x := 41) (by decide)) (by decide) (by decide) rfl dX12_ticks_158 (fun c24 => ?_)
      refine aw_iconst X dX12_ticks_159 ?_
      refine aw_iadd X dX12_ticks_160 ?_
      refine aw_iast X (j := 41) h_a1 (z_lit (x := 41) (by decide)) (by decide) (by decide) rfl (z_w_in _) dX12_ticks_161 ?_
      refine aw_iload_n X 2 dX12_ticks_162 rfl rfl ?_
      obtain rfl := Option.some.inj hf
      exact aw_iret X c_v2 hr rfl dX12_ticks_163
    · rw [if_neg h18] at hf
      refine aw_aload_n X 1 dX12_ticks_86 rfl rfl ?_
      refine aw_bipush X dX12_ticks_87 (by decide) ?_
      refine aw_iload_n X 3 dX12_ticks_89 rfl rfl ?_
      refine aw_iadd X dX12_ticks_90 ?_
      refine aw_bipush X dX12_ticks_91 (by decide) ?_
      refine aw_aload_n X 1 dX12_ticks_93 rfl rfl ?_
      refine aw_bipush X dX12_ticks_94 (by decide) ?_
      refine aw_iload_n X 3 dX12_ticks_96 rfl rfl ?_
      refine aw_iadd X dX12_ticks_97 ?_
      obtain ⟨g25, hf⟩ := z_gd hf
      refine aw_iald X (j := (z_w (29 + v3)).toNat) h_a1 (z_w_in _) g25.1 g25.2 rfl dX12_ticks_98 (fun c26 => ?_)
      refine aw_imul X dX12_ticks_99 ?_
      refine aw_aload_n X 0 dX12_ticks_100 rfl rfl ?_
      refine aw_getR X s_758 fX12_79 rfl dX12_ticks_101 ?_
      refine aw_iload_n X 3 dX12_ticks_104 rfl rfl ?_
      obtain ⟨g27, hf⟩ := z_gd hf
      refine aw_iald X (j := v3.toNat) s_780 c_v3 g27.1 g27.2 rfl dX12_ticks_105 (fun c28 => ?_)
      refine aw_sipush X dX12_ticks_106 (by decide) ?_
      refine aw_imul X dX12_ticks_109 ?_
      refine aw_aload_n X 0 dX12_ticks_110 rfl rfl ?_
      refine aw_getI X s_758 fX12_243 rfl dX12_ticks_111 (fun c29 => ?_)
      obtain ⟨g30, hf⟩ := z_gd hf
      refine aw_idiv X (z_w_in _) c29 g30 dX12_ticks_114 ?_
      refine aw_iadd X dX12_ticks_115 ?_
      refine aw_bipush X dX12_ticks_116 (by decide) ?_
      refine aw_idiv X (z_w_in _) (z_lit (x := 8) (by decide)) (by decide) dX12_ticks_118 ?_
      obtain ⟨g31, hf⟩ := z_gd hf
      refine aw_iast X (j := (z_w (29 + v3)).toNat) h_a1 (z_w_in _) g31.1 g31.2 rfl (z_w_in _) dX12_ticks_119 ?_
      refine aw_iinc X 3 [(3, z_i (z_w (v3 + 1))), (0, .ref (ad 758)), (1, .ref (ad a1)), (2, z_i v2)] dX12_ticks_120 rfl (by decide) rfl ?_
      refine aw_goto X (tgt := 78) dX12_ticks_123 (by decide) ?_
      refine aw_sub [1, 2, 3, 0] rfl ?_
      exact ih a1 h_a1 v2 c_v2 (z_w (v3 + 1)) (z_w_in _) (u2 σ a1 (z_w (29 + v3)).toNat (z_w (Int.tdiv (z_w ((z_w (7 * (σ a1 (z_w (29 + v3)).toNat))) + (z_w (Int.tdiv (z_w ((σ 780 v3.toNat) * 1024)) (σ 758 26))))) 8))) hf
set_option maxHeartbeats 4000000 in
set_option maxRecDepth 100000 in
theorem A_X12_ticks_53 (X : AX p s m args meth c D cA sa bs cX12_ticks 4 RX12) (hr : meth.sig.returnType = (some .int)) : ∀ (k : Nat) (a1 : Nat) (h_a1 : a1 < 788 ∧ SHp a1 = .inr (0, 256, [])) (v2 : Int) (c_v2 : Z_I v2) (v3 : Int) (c_v3 : Z_I v3) (σ : Nat → Nat → Int), f_X12_ticks_53 k a1 v2 v3 σ = some q → AW p l e (ax_rm 4 0 0) s m args below meth c D cA ad bs 788 SHp 0 0 (ax_MQ below args s D cA ad bs 788 SHp 0 0 (some (z_i q.1)) (Z_I q.1) q.2) 4 53 [(0, .ref (ad 758)), (1, .ref (ad a1)), (2, z_i v2), (3, z_i v3)] [] σ := by
  intro k
  induction k with
  | zero =>
    intro a1 h_a1 v2 c_v2 v3 c_v3 σ hf
    unfold f_X12_ticks_53 at hf
    cases hf
  | succ k ih =>
    intro a1 h_a1 v2 c_v2 v3 c_v3 σ hf
    unfold f_X12_ticks_53 at hf
    refine aw_iload_n X 3 dX12_ticks_53 rfl rfl ?_
    refine aw_aload_n X 0 dX12_ticks_54 rfl rfl ?_
    refine aw_getI X s_758 fX12_240 rfl dX12_ticks_55 (fun c12 => ?_)
    refine aw_icmp_ge X (tgt := 76) c_v3 c12 dX12_ticks_58 (by decide) (fun h13 => ?_) (fun h13 => ?_)
    · rw [if_pos h13] at hf
      refine aw_iconst X dX12_ticks_76 ?_
      refine aw_istore_n X [(3, z_i 0), (0, .ref (ad 758)), (1, .ref (ad a1)), (2, z_i v2)] dX12_ticks_77 rfl (by decide) rfl ?_
      refine aw_sub [1, 2, 3, 0] rfl ?_
      exact A_X12_ticks_78 X hr 100000 a1 h_a1 v2 c_v2 0 (z_lit (x := 0) (by decide)) σ hf
    · rw [if_neg h13] at hf
      refine aw_iload_n X 2 dX12_ticks_61 rfl rfl ?_
      refine aw_aload_n X 0 dX12_ticks_62 rfl rfl ?_
      refine aw_aload_n X 1 dX12_ticks_63 rfl rfl ?_
      refine aw_iload_n X 3 dX12_ticks_64 rfl rfl ?_
      obtain ⟨q14, e15, hf⟩ := z_bd hf
      refine aw_callV X [.ref (ad a1), z_i v3] [z_i v2] [z_i q14.1, z_i v2] cX12_327 s_758 ciX12 (C_X12_works l D cA sa ad bs a1 h_a1 v3 c_v3 σ q14 e15) rfl ⟨(Nat.le_of_ble_eq_true rfl), (Nat.le_of_ble_eq_true rfl), (Nat.le_of_ble_eq_true rfl), (Nat.le_of_ble_eq_true rfl)⟩ rfl (Nat.le_of_ble_eq_true rfl) rfl dX12_ticks_65 (fun p16 => ?_)
      refine aw_iadd X dX12_ticks_68 ?_
      refine aw_istore_n X [(2, z_i (z_w (v2 + q14.1))), (0, .ref (ad 758)), (1, .ref (ad a1)), (3, z_i v3)] dX12_ticks_69 rfl (by decide) rfl ?_
      refine aw_iinc X 3 [(3, z_i (z_w (v3 + 1))), (2, z_i (z_w (v2 + q14.1))), (0, .ref (ad 758)), (1, .ref (ad a1))] dX12_ticks_70 rfl (by decide) rfl ?_
      refine aw_goto X (tgt := 53) dX12_ticks_73 (by decide) ?_
      refine aw_sub [2, 3, 1, 0] rfl ?_
      exact ih a1 h_a1 (z_w (v2 + q14.1)) (z_w_in _) (z_w (v3 + 1)) (z_w_in _) q14.2 hf
set_option maxHeartbeats 4000000 in
set_option maxRecDepth 100000 in
theorem A_X12_ticks_30 (X : AX p s m args meth c D cA sa bs cX12_ticks 4 RX12) (hr : meth.sig.returnType = (some .int)) : ∀ (k : Nat) (a1 : Nat) (h_a1 : a1 < 788 ∧ SHp a1 = .inr (0, 256, [])) (v2 : Int) (c_v2 : Z_I v2) (v3 : Int) (c_v3 : Z_I v3) (σ : Nat → Nat → Int), f_X12_ticks_30 k a1 v2 v3 σ = some q → AW p l e (ax_rm 4 0 0) s m args below meth c D cA ad bs 788 SHp 0 0 (ax_MQ below args s D cA ad bs 788 SHp 0 0 (some (z_i q.1)) (Z_I q.1) q.2) 4 30 [(0, .ref (ad 758)), (1, .ref (ad a1)), (2, z_i v2), (3, z_i v3)] [] σ := by
  intro k
  induction k with
  | zero =>
    intro a1 h_a1 v2 c_v2 v3 c_v3 σ hf
    unfold f_X12_ticks_30 at hf
    cases hf
  | succ k ih =>
    intro a1 h_a1 v2 c_v2 v3 c_v3 σ hf
    unfold f_X12_ticks_30 at hf
    refine aw_iload_n X 3 dX12_ticks_30 rfl rfl ?_
    refine aw_aload_n X 0 dX12_ticks_31 rfl rfl ?_
    refine aw_getI X s_758 fX12_237 rfl dX12_ticks_32 (fun c9 => ?_)
    refine aw_icmp_ge X (tgt := 51) c_v3 c9 dX12_ticks_35 (by decide) (fun h10 => ?_) (fun h10 => ?_)
    · rw [if_pos h10] at hf
      refine aw_iconst X dX12_ticks_51 ?_
      refine aw_istore_n X [(3, z_i 0), (0, .ref (ad 758)), (1, .ref (ad a1)), (2, z_i v2)] dX12_ticks_52 rfl (by decide) rfl ?_
      refine aw_sub [1, 2, 3, 0] rfl ?_
      exact A_X12_ticks_53 X hr 100000 a1 h_a1 v2 c_v2 0 (z_lit (x := 0) (by decide)) σ hf
    · rw [if_neg h10] at hf
      refine aw_aload_n X 0 dX12_ticks_38 rfl rfl ?_
      refine aw_getR X s_758 fX12_79 rfl dX12_ticks_39 ?_
      refine aw_iload_n X 3 dX12_ticks_42 rfl rfl ?_
      refine aw_iconst X dX12_ticks_43 ?_
      obtain ⟨g11, hf⟩ := z_gd hf
      refine aw_iast X (j := v3.toNat) s_780 c_v3 g11.1 g11.2 rfl (z_lit (x := 0) (by decide)) dX12_ticks_44 ?_
      refine aw_iinc X 3 [(3, z_i (z_w (v3 + 1))), (0, .ref (ad 758)), (1, .ref (ad a1)), (2, z_i v2)] dX12_ticks_45 rfl (by decide) rfl ?_
      refine aw_goto X (tgt := 30) dX12_ticks_48 (by decide) ?_
      refine aw_sub [1, 2, 3, 0] rfl ?_
      exact ih a1 h_a1 v2 c_v2 (z_w (v3 + 1)) (z_w_in _) (u2 σ 780 v3.toNat 0) hf
set_option maxHeartbeats 4000000 in
set_option maxRecDepth 100000 in
theorem A_X12_ticks_8 (X : AX p s m args meth c D cA sa bs cX12_ticks 4 RX12) (hr : meth.sig.returnType = (some .int)) : ∀ (k : Nat) (a1 : Nat) (h_a1 : a1 < 788 ∧ SHp a1 = .inr (0, 256, [])) (v2 : Int) (c_v2 : Z_I v2) (v3 : Int) (c_v3 : Z_I v3) (σ : Nat → Nat → Int), f_X12_ticks_8 k a1 v2 v3 σ = some q → AW p l e (ax_rm 4 0 0) s m args below meth c D cA ad bs 788 SHp 0 0 (ax_MQ below args s D cA ad bs 788 SHp 0 0 (some (z_i q.1)) (Z_I q.1) q.2) 4 8 [(0, .ref (ad 758)), (1, .ref (ad a1)), (2, z_i v2), (3, z_i v3)] [] σ := by
  intro k
  induction k with
  | zero =>
    intro a1 h_a1 v2 c_v2 v3 c_v3 σ hf
    unfold f_X12_ticks_8 at hf
    cases hf
  | succ k ih =>
    intro a1 h_a1 v2 c_v2 v3 c_v3 σ hf
    unfold f_X12_ticks_8 at hf
    refine aw_iload_n X 3 dX12_ticks_8 rfl rfl ?_
    refine aw_aload_n X 0 dX12_ticks_9 rfl rfl ?_
    refine aw_getI X s_758 fX12_234 rfl dX12_ticks_10 (fun c4 => ?_)
    refine aw_icmp_ge X (tgt := 28) c_v3 c4 dX12_ticks_13 (by decide) (fun h5 => ?_) (fun h5 => ?_)
    · rw [if_pos h5] at hf
      refine aw_iconst X dX12_ticks_28 ?_
      refine aw_istore_n X [(3, z_i 0), (0, .ref (ad 758)), (1, .ref (ad a1)), (2, z_i v2)] dX12_ticks_29 rfl (by decide) rfl ?_
      refine aw_sub [1, 2, 3, 0] rfl ?_
      exact A_X12_ticks_30 X hr 100000 a1 h_a1 v2 c_v2 0 (z_lit (x := 0) (by decide)) σ hf
    · rw [if_neg h5] at hf
      refine aw_aload_n X 0 dX12_ticks_16 rfl rfl ?_
      refine aw_aload_n X 1 dX12_ticks_17 rfl rfl ?_
      refine aw_iload_n X 3 dX12_ticks_18 rfl rfl ?_
      obtain ⟨q6, e7, hf⟩ := z_bd hf
      refine aw_callV X [.ref (ad a1), z_i v3] [] [] cX12_323 s_758 ciX12 (C_X12_chooses l D cA sa ad bs a1 h_a1 v3 c_v3 σ q6 e7) rfl ⟨(Nat.le_of_ble_eq_true rfl), (Nat.le_of_ble_eq_true rfl), (Nat.le_of_ble_eq_true rfl), (Nat.le_of_ble_eq_true rfl)⟩ rfl (Nat.le_of_ble_eq_true rfl) rfl dX12_ticks_19 (fun p8 => ?_)
      refine aw_iinc X 3 [(3, z_i (z_w (v3 + 1))), (0, .ref (ad 758)), (1, .ref (ad a1)), (2, z_i v2)] dX12_ticks_22 rfl (by decide) rfl ?_
      refine aw_goto X (tgt := 8) dX12_ticks_25 (by decide) ?_
      refine aw_sub [1, 2, 3, 0] rfl ?_
      exact ih a1 h_a1 v2 c_v2 (z_w (v3 + 1)) (z_w_in _) q6 hf
end S_X12_ticks
set_option maxHeartbeats 4000000 in
set_option maxRecDepth 100000 in
theorem C_X12_ticks (l : Launch) (D : va_G) (cA : Nat → ClassId) (sa ad : Nat → Nat) (bs : Nat) (a1 : Nat) (h_a1 : a1 < 788 ∧ SHp a1 = .inr (0, 256, [])) (σ : Nat → Nat → Int) (q : (Int × (Nat → Nat → Int))) (hf : f_X12_ticks a1 σ = some q) : AM l D cA sa ad bs 788 SHp yX12_ticks cX12_ticks 4 (some .int) 4 [.ref (ad 758), .ref (ad a1)] σ (some (z_i q.1)) (Z_I q.1) q.2 := by
  refine am_of (by decide +kernel) (Nat.le_of_ble_eq_true rfl) (fun p e s m args below meth c X hr => ?_)
  refine aw_lv (lv' := [(0, .ref (ad 758)), (1, .ref (ad a1))]) rfl ?_
  unfold f_X12_ticks at hf
  refine aw_aload_n X 0 dX12_ticks_0 rfl rfl ?_
  refine aw_aload_n X 1 dX12_ticks_1 rfl rfl ?_
  obtain ⟨q1, e2, hf⟩ := z_bd hf
  refine aw_callV X [.ref (ad a1)] [] [z_i q1.1] cX12_319 s_758 ciX12 (C_X12_begins l D cA sa ad bs a1 h_a1 σ q1 e2) rfl ⟨(Nat.le_of_ble_eq_true rfl), (Nat.le_of_ble_eq_true rfl), (Nat.le_of_ble_eq_true rfl), (Nat.le_of_ble_eq_true rfl)⟩ rfl (Nat.le_of_ble_eq_true rfl) rfl dX12_ticks_2 (fun p3 => ?_)
  refine aw_istore_n X [(2, z_i q1.1), (0, .ref (ad 758)), (1, .ref (ad a1))] dX12_ticks_5 rfl (by decide) rfl ?_
  refine aw_iconst X dX12_ticks_6 ?_
  refine aw_istore_n X [(3, z_i 0), (2, z_i q1.1), (0, .ref (ad 758)), (1, .ref (ad a1))] dX12_ticks_7 rfl (by decide) rfl ?_
  refine aw_sub [2, 3, 1, 0] rfl ?_
  exact A_X12_ticks_8 X hr 100000 a1 h_a1 q1.1 p3 0 (z_lit (x := 0) (by decide)) q1.2 hf
-- SpeedDeskModel.remember()V
section S_X12_remember
variable {p : Program} {l : Launch} {e : Env} {s : State} {m : MethodId} {args : Array Value} {below : List Frame} {meth : Method} {c : Code} {D : va_G} {cA : Nat → ClassId} {sa ad : Nat → Nat} {bs : Nat} {q : (Nat → Nat → Int)}
set_option maxHeartbeats 4000000 in
set_option maxRecDepth 100000 in
theorem A_X12_remember_35 (X : AX p s m args meth c D cA sa bs cX12_remember 1 RX12) (hr : meth.sig.returnType = none)  (σ : Nat → Nat → Int) (hf : f_X12_remember_35 σ = some q) : AW p l e (ax_rm 1 0 0) s m args below meth c D cA ad bs 788 SHp 0 0 (ax_MQ below args s D cA ad bs 788 SHp 0 0 none True q) 1 35 [(0, .ref (ad 758))] [] σ := by
  unfold f_X12_remember_35 at hf
  refine aw_aload_n X 0 dX12_remember_35 rfl rfl ?_
  refine aw_getR X s_758 fX12_63 rfl dX12_remember_36 ?_
  refine aw_iconst X dX12_remember_39 ?_
  refine aw_aload_n X 0 dX12_remember_40 rfl rfl ?_
  refine aw_getR X s_758 fX12_72 rfl dX12_remember_41 ?_
  refine aw_sipush X dX12_remember_44 (by decide) ?_
  refine aw_aload_n X 0 dX12_remember_47 rfl rfl ?_
  refine aw_getI X s_758 fX12_330 rfl dX12_remember_48 (fun c5 => ?_)
  refine aw_aload_n X 0 dX12_remember_51 rfl rfl ?_
  refine aw_getI X s_758 fX12_260 rfl dX12_remember_52 (fun c6 => ?_)
  refine aw_iadd X dX12_remember_55 ?_
  refine aw_iconst X dX12_remember_56 ?_
  refine aw_isub X dX12_remember_57 ?_
  refine aw_bipush X dX12_remember_58 (by decide) ?_
  refine aw_irem X (z_w_in _) (z_lit (x := 40) (by decide)) (by decide) dX12_remember_60 ?_
  refine aw_imul X dX12_remember_61 ?_
  obtain ⟨q7, e8, hf⟩ := z_bd hf
  refine aw_callS X [.ref (ad 776), z_i 0, .ref (ad 779), z_i (z_w (256 * (z_w (Int.tmod (z_w ((z_w ((σ 758 35) + (σ 758 36))) - 1)) 40))))] [] [] cX12_333 (C_X12_copyRow l D cA sa ad bs 776 256 s_776 0 (z_lit (x := 0) (by decide)) 779 10240 s_779 (z_w (256 * (z_w (Int.tmod (z_w ((z_w ((σ 758 35) + (σ 758 36))) - 1)) 40)))) (z_w_in _) σ q7 e8) rfl ⟨(Nat.le_of_ble_eq_true rfl), (Nat.le_of_ble_eq_true rfl), (Nat.le_of_ble_eq_true rfl), (Nat.le_of_ble_eq_true rfl)⟩ rfl (Nat.le_of_ble_eq_true rfl) rfl dX12_remember_62 (fun p9 => ?_)
  obtain rfl := Option.some.inj hf
  exact aw_vret X trivial hr rfl dX12_remember_65
end S_X12_remember
set_option maxHeartbeats 4000000 in
set_option maxRecDepth 100000 in
theorem C_X12_remember (l : Launch) (D : va_G) (cA : Nat → ClassId) (sa ad : Nat → Nat) (bs : Nat)  (σ : Nat → Nat → Int) (q : (Nat → Nat → Int)) (hf : f_X12_remember σ = some q) : AM l D cA sa ad bs 788 SHp yX12_remember cX12_remember 1 none 1 [.ref (ad 758)] σ none True q := by
  refine am_of (by decide +kernel) (Nat.le_of_ble_eq_true rfl) (fun p e s m args below meth c X hr => ?_)
  refine aw_lv (lv' := [(0, .ref (ad 758))]) rfl ?_
  unfold f_X12_remember at hf
  refine aw_aload_n X 0 dX12_remember_0 rfl rfl ?_
  refine aw_getI X s_758 fX12_260 rfl dX12_remember_1 (fun c1 => ?_)
  refine aw_bipush X dX12_remember_4 (by decide) ?_
  refine aw_icmp_ne X (tgt := 25) c1 (z_lit (x := 40) (by decide)) dX12_remember_6 (by decide) (fun h2 => ?_) (fun h2 => ?_)
  · rw [if_neg h2] at hf
    refine aw_aload_n X 0 dX12_remember_25 rfl rfl ?_
    refine aw_dup X dX12_remember_26 rfl ?_
    refine aw_getI X s_758 fX12_260 rfl dX12_remember_27 (fun c3 => ?_)
    refine aw_iconst X dX12_remember_30 ?_
    refine aw_iadd X dX12_remember_31 ?_
    refine aw_putI X s_758 pX12_260 rfl (z_w_in _) dX12_remember_32 ?_
    exact A_X12_remember_35 X hr (u2 σ 758 36 (z_w ((σ 758 36) + 1))) hf
  · rw [if_pos h2] at hf
    refine aw_aload_n X 0 dX12_remember_9 rfl rfl ?_
    refine aw_aload_n X 0 dX12_remember_10 rfl rfl ?_
    refine aw_getI X s_758 fX12_330 rfl dX12_remember_11 (fun c4 => ?_)
    refine aw_iconst X dX12_remember_14 ?_
    refine aw_iadd X dX12_remember_15 ?_
    refine aw_bipush X dX12_remember_16 (by decide) ?_
    refine aw_irem X (z_w_in _) (z_lit (x := 40) (by decide)) (by decide) dX12_remember_18 ?_
    refine aw_putI X s_758 pX12_330 rfl (z_w_in _) dX12_remember_19 ?_
    refine aw_goto X (tgt := 35) dX12_remember_22 (by decide) ?_
    exact A_X12_remember_35 X hr (u2 σ 758 35 (z_w (Int.tmod (z_w ((σ 758 35) + 1)) 40))) hf
-- SpeedDeskModel.notes(II)V
section S_X12_notes
variable {p : Program} {l : Launch} {e : Env} {s : State} {m : MethodId} {args : Array Value} {below : List Frame} {meth : Method} {c : Code} {D : va_G} {cA : Nat → ClassId} {sa ad : Nat → Nat} {bs : Nat} {q : (Nat → Nat → Int)}
set_option maxHeartbeats 4000000 in
set_option maxRecDepth 100000 in
theorem A_X12_notes_58 (X : AX p s m args meth c D cA sa bs cX12_notes 4 RX12) (hr : meth.sig.returnType = none) (v1 : Int) (c_v1 : Z_I v1) (v2 : Int) (c_v2 : Z_I v2) (σ : Nat → Nat → Int) (hf : f_X12_notes_58 v1 v2 σ = some q) : AW p l e (ax_rm 0 0 0) s m args below meth c D cA ad bs 788 SHp 0 0 (ax_MQ below args s D cA ad bs 788 SHp 0 0 none True q) 4 58 [(0, .ref (ad 758)), (1, z_i v1), (2, z_i v2)] [] σ := by
  unfold f_X12_notes_58 at hf
  refine aw_bipush X dX12_notes_58 (by decide) ?_
  refine aw_iconst X dX12_notes_60 ?_
  refine aw_aload_n X 0 dX12_notes_61 rfl rfl ?_
  refine aw_getR X s_758 fX12_63 rfl dX12_notes_62 ?_
  refine aw_bipush X dX12_notes_65 (by decide) ?_
  refine aw_iald X (j := 75) s_776 (z_lit (x := 75) (by decide)) (by decide) (by decide) rfl dX12_notes_67 (fun c3 => ?_)
  refine aw_imul X dX12_notes_68 ?_
  refine aw_iadd X dX12_notes_69 ?_
  refine aw_istore_n X [(3, z_i (z_w (76 + (z_w (3 * (σ 776 75)))))), (0, .ref (ad 758)), (1, z_i v1), (2, z_i v2)] dX12_notes_70 rfl (by decide) rfl ?_
  refine aw_aload_n X 1 dX12_notes_71 rfl rfl ?_
  refine aw_getR X s_758 fX12_63 rfl dX12_notes_72 ?_
  refine aw_iload_n X 0 dX12_notes_75 rfl rfl ?_
  refine aw_iload_n X 2 dX12_notes_76 rfl rfl ?_
  obtain ⟨g4, hf⟩ := z_gd hf
  refine aw_iast X (j := (z_w (76 + (z_w (3 * (σ 776 75))))).toNat) s_776 (z_w_in _) g4.1 g4.2 rfl c_v1 dX12_notes_77 ?_
  refine aw_aload_n X 1 dX12_notes_78 rfl rfl ?_
  refine aw_getR X s_758 fX12_63 rfl dX12_notes_79 ?_
  refine aw_iload_n X 0 dX12_notes_82 rfl rfl ?_
  refine aw_iconst X dX12_notes_83 ?_
  refine aw_iadd X dX12_notes_84 ?_
  refine aw_iload_n X 3 dX12_notes_85 rfl rfl ?_
  obtain ⟨g5, hf⟩ := z_gd hf
  refine aw_iast X (j := (z_w ((z_w (76 + (z_w (3 * (σ 776 75))))) + 1)).toNat) s_776 (z_w_in _) g5.1 g5.2 rfl c_v2 dX12_notes_86 ?_
  refine aw_aload_n X 1 dX12_notes_87 rfl rfl ?_
  refine aw_getR X s_758 fX12_63 rfl dX12_notes_88 ?_
  refine aw_iload_n X 0 dX12_notes_91 rfl rfl ?_
  refine aw_iconst X dX12_notes_92 ?_
  refine aw_iadd X dX12_notes_93 ?_
  refine aw_aload_n X 1 dX12_notes_94 rfl rfl ?_
  refine aw_getR X s_758 fX12_63 rfl dX12_notes_95 ?_
  refine aw_bipush X dX12_notes_98 (by decide) ?_
  refine aw_iald X (j := 41) s_776 (z_lit (x := 41) (by decide)) (by decide) (by decide) rfl dX12_notes_100 (fun c6 => ?_)
  obtain ⟨g7, hf⟩ := z_gd hf
  refine aw_iast X (j := (z_w ((z_w (76 + (z_w (3 * (σ 776 75))))) + 2)).toNat) s_776 (z_w_in _) g7.1 g7.2 rfl c6 dX12_notes_101 ?_
  refine aw_aload_n X 1 dX12_notes_102 rfl rfl ?_
  refine aw_getR X s_758 fX12_63 rfl dX12_notes_103 ?_
  refine aw_bipush X dX12_notes_106 (by decide) ?_
  refine aw_dup2 X dX12_notes_108 rfl rfl ?_
  refine aw_iald X (j := 75) s_776 (z_lit (x := 75) (by decide)) (by decide) (by decide) rfl dX12_notes_109 (fun c8 => ?_)
  refine aw_iconst X dX12_notes_110 ?_
  refine aw_iadd X dX12_notes_111 ?_
  refine aw_iast X (j := 75) s_776 (z_lit (x := 75) (by decide)) (by decide) (by decide) rfl (z_w_in _) dX12_notes_112 ?_
  obtain rfl := Option.some.inj hf
  exact aw_vret X trivial hr rfl dX12_notes_113
set_option maxHeartbeats 4000000 in
set_option maxRecDepth 100000 in
theorem A_X12_notes_14 (X : AX p s m args meth c D cA sa bs cX12_notes 4 RX12) (hr : meth.sig.returnType = none) : ∀ (k : Nat) (v1 : Int) (c_v1 : Z_I v1) (v2 : Int) (c_v2 : Z_I v2) (v3 : Int) (c_v3 : Z_I v3) (σ : Nat → Nat → Int), f_X12_notes_14 k v1 v2 v3 σ = some q → AW p l e (ax_rm 0 0 0) s m args below meth c D cA ad bs 788 SHp 0 0 (ax_MQ below args s D cA ad bs 788 SHp 0 0 none True q) 4 14 [(0, .ref (ad 758)), (1, z_i v1), (2, z_i v2), (3, z_i v3)] [] σ := by
  intro k
  induction k with
  | zero =>
    intro v1 c_v1 v2 c_v2 v3 c_v3 σ hf
    unfold f_X12_notes_14 at hf
    cases hf
  | succ k ih =>
    intro v1 c_v1 v2 c_v2 v3 c_v3 σ hf
    unfold f_X12_notes_14 at hf
    refine aw_iload_n X 3 dX12_notes_14 rfl rfl ?_
    refine aw_sipush X dX12_notes_15 (by decide) ?_
    refine aw_icmp_gt X (tgt := 47) c_v3 (z_lit (x := 177) (by decide)) dX12_notes_18 (by decide) (fun h9 => ?_) (fun h9 => ?_)
    · rw [if_pos h9] at hf
      refine aw_aload_n X 0 dX12_notes_47 rfl rfl ?_
      refine aw_getR X s_758 fX12_63 rfl dX12_notes_48 ?_
      refine aw_bipush X dX12_notes_51 (by decide) ?_
      refine aw_dup2 X dX12_notes_53 rfl rfl ?_
      refine aw_iald X (j := 75) s_776 (z_lit (x := 75) (by decide)) (by decide) (by decide) rfl dX12_notes_54 (fun c10 => ?_)
      refine aw_iconst X dX12_notes_55 ?_
      refine aw_isub X dX12_notes_56 ?_
      refine aw_iast X (j := 75) s_776 (z_lit (x := 75) (by decide)) (by decide) (by decide) rfl (z_w_in _) dX12_notes_57 ?_
      refine aw_sub [0, 1, 2] rfl ?_
      exact A_X12_notes_58 X hr v1 c_v1 v2 c_v2 (u2 σ 776 75 (z_w ((σ 776 75) - 1))) hf
    · rw [if_neg h9] at hf
      refine aw_aload_n X 0 dX12_notes_21 rfl rfl ?_
      refine aw_getR X s_758 fX12_63 rfl dX12_notes_22 ?_
      refine aw_bipush X dX12_notes_25 (by decide) ?_
      refine aw_iload_n X 3 dX12_notes_27 rfl rfl ?_
      refine aw_iadd X dX12_notes_28 ?_
      refine aw_aload_n X 0 dX12_notes_29 rfl rfl ?_
      refine aw_getR X s_758 fX12_63 rfl dX12_notes_30 ?_
      refine aw_bipush X dX12_notes_33 (by decide) ?_
      refine aw_iload_n X 3 dX12_notes_35 rfl rfl ?_
      refine aw_iadd X dX12_notes_36 ?_
      refine aw_iconst X dX12_notes_37 ?_
      refine aw_iadd X dX12_notes_38 ?_
      obtain ⟨g11, hf⟩ := z_gd hf
      refine aw_iald X (j := (z_w ((z_w (75 + v3)) + 3)).toNat) s_776 (z_w_in _) g11.1 g11.2 rfl dX12_notes_39 (fun c12 => ?_)
      obtain ⟨g13, hf⟩ := z_gd hf
      refine aw_iast X (j := (z_w (75 + v3)).toNat) s_776 (z_w_in _) g13.1 g13.2 rfl c12 dX12_notes_40 ?_
      refine aw_iinc X 3 [(3, z_i (z_w (v3 + 1))), (0, .ref (ad 758)), (1, z_i v1), (2, z_i v2)] dX12_notes_41 rfl (by decide) rfl ?_
      refine aw_goto X (tgt := 14) dX12_notes_44 (by decide) ?_
      refine aw_sub [1, 2, 3, 0] rfl ?_
      exact ih v1 c_v1 v2 c_v2 (z_w (v3 + 1)) (z_w_in _) (u2 σ 776 (z_w (75 + v3)).toNat (σ 776 (z_w ((z_w (75 + v3)) + 3)).toNat)) hf
end S_X12_notes
set_option maxHeartbeats 4000000 in
set_option maxRecDepth 100000 in
theorem C_X12_notes (l : Launch) (D : va_G) (cA : Nat → ClassId) (sa ad : Nat → Nat) (bs : Nat) (v1 : Int) (c_v1 : Z_I v1) (v2 : Int) (c_v2 : Z_I v2) (σ : Nat → Nat → Int) (q : (Nat → Nat → Int)) (hf : f_X12_notes v1 v2 σ = some q) : AM l D cA sa ad bs 788 SHp yX12_notes cX12_notes 4 none 0 [.ref (ad 758), z_i v1, z_i v2] σ none True q := by
  refine am_of (by decide +kernel) (Nat.le_of_ble_eq_true rfl) (fun p e s m args below meth c X hr => ?_)
  refine aw_lv (lv' := [(0, .ref (ad 758)), (1, z_i v1), (2, z_i v2)]) rfl ?_
  unfold f_X12_notes at hf
  refine aw_aload_n X 0 dX12_notes_0 rfl rfl ?_
  refine aw_getR X s_758 fX12_63 rfl dX12_notes_1 ?_
  refine aw_bipush X dX12_notes_4 (by decide) ?_
  refine aw_iald X (j := 75) s_776 (z_lit (x := 75) (by decide)) (by decide) (by decide) rfl dX12_notes_6 (fun c1 => ?_)
  refine aw_bipush X dX12_notes_7 (by decide) ?_
  refine aw_icmp_ne X (tgt := 58) c1 (z_lit (x := 60) (by decide)) dX12_notes_9 (by decide) (fun h2 => ?_) (fun h2 => ?_)
  · rw [if_neg h2] at hf
    exact A_X12_notes_58 X hr v1 c_v1 v2 c_v2 σ hf
  · rw [if_pos h2] at hf
    refine aw_iconst X dX12_notes_12 ?_
    refine aw_istore_n X [(3, z_i 1), (0, .ref (ad 758)), (1, z_i v1), (2, z_i v2)] dX12_notes_13 rfl (by decide) rfl ?_
    refine aw_sub [1, 2, 3, 0] rfl ?_
    exact A_X12_notes_14 X hr 100000 v1 c_v1 v2 c_v2 1 (z_lit (x := 1) (by decide)) σ hf
-- SpeedDeskModel.isTask(I)Z
section S_X12_isTask
variable {p : Program} {l : Launch} {e : Env} {s : State} {m : MethodId} {args : Array Value} {below : List Frame} {meth : Method} {c : Code} {D : va_G} {cA : Nat → ClassId} {sa ad : Nat → Nat} {bs : Nat} {q : Int}

end S_X12_isTask
set_option maxHeartbeats 4000000 in
set_option maxRecDepth 100000 in
theorem C_X12_isTask (l : Launch) (D : va_G) (cA : Nat → ClassId) (sa ad : Nat → Nat) (bs : Nat) (v1 : Int) (c_v1 : Z_I v1) (σ : Nat → Nat → Int) (q : Int) (hf : f_X12_isTask v1 σ = some q) : AM l D cA sa ad bs 788 SHp yX12_isTask cX12_isTask 2 (some .boolean) 0 [.ref (ad 758), z_i v1] σ (some (z_i q)) (q = 0 ∨ q = 1) σ := by
  refine am_of (by decide +kernel) (Nat.le_of_ble_eq_true rfl) (fun p e s m args below meth c X hr => ?_)
  refine aw_lv (lv' := [(0, .ref (ad 758)), (1, z_i v1)]) rfl ?_
  unfold f_X12_isTask at hf
  refine aw_iload_n X 1 dX12_isTask_0 rfl rfl ?_
  refine aw_if_lt X (tgt := 16) c_v1 dX12_isTask_1 (by decide) (fun h1 => ?_) (fun h1 => ?_)
  · rw [if_pos h1] at hf
    refine aw_iconst X dX12_isTask_16 ?_
    obtain rfl := Option.some.inj hf
    exact aw_zret X (Or.inl rfl) hr (Or.inl rfl) rfl dX12_isTask_17
  · rw [if_neg h1] at hf
    refine aw_iload_n X 1 dX12_isTask_4 rfl rfl ?_
    refine aw_aload_n X 0 dX12_isTask_5 rfl rfl ?_
    refine aw_getI X s_758 fX12_237 rfl dX12_isTask_6 (fun c2 => ?_)
    refine aw_icmp_ge X (tgt := 16) c_v1 c2 dX12_isTask_9 (by decide) (fun h3 => ?_) (fun h3 => ?_)
    · rw [if_pos h3] at hf
      refine aw_iconst X dX12_isTask_16 ?_
      obtain rfl := Option.some.inj hf
      exact aw_zret X (Or.inl rfl) hr (Or.inl rfl) rfl dX12_isTask_17
    · rw [if_neg h3] at hf
      refine aw_iconst X dX12_isTask_12 ?_
      refine aw_goto X (tgt := 17) dX12_isTask_13 (by decide) ?_
      obtain rfl := Option.some.inj hf
      exact aw_zret X (Or.inr rfl) hr (Or.inr rfl) rfl dX12_isTask_17
-- SpeedDeskModel.isCluster(I)Z
section S_X12_isCluster
variable {p : Program} {l : Launch} {e : Env} {s : State} {m : MethodId} {args : Array Value} {below : List Frame} {meth : Method} {c : Code} {D : va_G} {cA : Nat → ClassId} {sa ad : Nat → Nat} {bs : Nat} {q : Int}

end S_X12_isCluster
set_option maxHeartbeats 4000000 in
set_option maxRecDepth 100000 in
theorem C_X12_isCluster (l : Launch) (D : va_G) (cA : Nat → ClassId) (sa ad : Nat → Nat) (bs : Nat) (v1 : Int) (c_v1 : Z_I v1) (σ : Nat → Nat → Int) (q : Int) (hf : f_X12_isCluster v1 σ = some q) : AM l D cA sa ad bs 788 SHp yX12_isCluster cX12_isCluster 2 (some .boolean) 0 [.ref (ad 758), z_i v1] σ (some (z_i q)) (q = 0 ∨ q = 1) σ := by
  refine am_of (by decide +kernel) (Nat.le_of_ble_eq_true rfl) (fun p e s m args below meth c X hr => ?_)
  refine aw_lv (lv' := [(0, .ref (ad 758)), (1, z_i v1)]) rfl ?_
  unfold f_X12_isCluster at hf
  refine aw_iload_n X 1 dX12_isCluster_0 rfl rfl ?_
  refine aw_if_lt X (tgt := 16) c_v1 dX12_isCluster_1 (by decide) (fun h1 => ?_) (fun h1 => ?_)
  · rw [if_pos h1] at hf
    refine aw_iconst X dX12_isCluster_16 ?_
    obtain rfl := Option.some.inj hf
    exact aw_zret X (Or.inl rfl) hr (Or.inl rfl) rfl dX12_isCluster_17
  · rw [if_neg h1] at hf
    refine aw_iload_n X 1 dX12_isCluster_4 rfl rfl ?_
    refine aw_aload_n X 0 dX12_isCluster_5 rfl rfl ?_
    refine aw_getI X s_758 fX12_234 rfl dX12_isCluster_6 (fun c2 => ?_)
    refine aw_icmp_ge X (tgt := 16) c_v1 c2 dX12_isCluster_9 (by decide) (fun h3 => ?_) (fun h3 => ?_)
    · rw [if_pos h3] at hf
      refine aw_iconst X dX12_isCluster_16 ?_
      obtain rfl := Option.some.inj hf
      exact aw_zret X (Or.inl rfl) hr (Or.inl rfl) rfl dX12_isCluster_17
    · rw [if_neg h3] at hf
      refine aw_iconst X dX12_isCluster_12 ?_
      refine aw_goto X (tgt := 17) dX12_isCluster_13 (by decide) ?_
      obtain rfl := Option.some.inj hf
      exact aw_zret X (Or.inr rfl) hr (Or.inr rfl) rfl dX12_isCluster_17
