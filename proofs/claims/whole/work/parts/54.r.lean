-- SpeedDeskModel.does([IIIII)V
section S_X12_does
variable {p : Program} {l : Launch} {e : Env} {s : State} {m : MethodId} {args : Array Value} {below : List Frame} {meth : Method} {c : Code} {D : va_G} {cA : Nat → ClassId} {sa ad : Nat → Nat} {bs : Nat} {q : (Nat → Nat → Int)}
set_option maxHeartbeats 4000000 in
set_option maxRecDepth 100000 in
theorem A_X12_does_48 (X : AX p s m args meth c D cA sa bs cX12_does 7 RX12) (hr : meth.sig.returnType = none) : ∀ (k : Nat) (a1 : Nat) (h_a1 : a1 < 788 ∧ SHp a1 = .inr (0, 256, [])) (v3 : Int) (c_v3 : Z_I v3) (v6 : Int) (c_v6 : Z_I v6) (σ : Nat → Nat → Int), f_X12_does_48 k a1 v3 v6 σ = some q → AW p l e (ax_rm 7 0 0) s m args below meth c D cA ad bs 788 SHp 0 0 (ax_MQ below args s D cA ad bs 788 SHp 0 0 none True q) 7 48 [(0, .ref (ad 758)), (1, .ref (ad a1)), (3, z_i v3), (6, z_i v6)] [] σ := by
  intro k
  induction k with
  | zero =>
    intro a1 h_a1 v3 c_v3 v6 c_v6 σ hf
    unfold f_X12_does_48 at hf
    cases hf
  | succ k ih =>
    intro a1 h_a1 v3 c_v3 v6 c_v6 σ hf
    unfold f_X12_does_48 at hf
    refine aw_iload X 3 dX12_does_48 rfl ?_
    refine aw_iload_n X 2 dX12_does_50 rfl rfl ?_
    refine aw_icmp_ge X (tgt := 74) c_v6 c_v3 dX12_does_51 (by decide) (fun h26 => ?_) (fun h26 => ?_)
    · rw [if_pos h26] at hf
      refine aw_goto X (tgt := 226) dX12_does_74 (by decide) ?_
      obtain rfl := Option.some.inj hf
      exact aw_vret X trivial hr rfl dX12_does_226
    · rw [if_neg h26] at hf
      refine aw_aload_n X 0 dX12_does_54 rfl rfl ?_
      refine aw_dup X dX12_does_55 rfl ?_
      refine aw_getI X s_758 fX12_373 rfl dX12_does_56 (fun c27 => ?_)
      refine aw_aload_n X 0 dX12_does_59 rfl rfl ?_
      refine aw_aload_n X 1 dX12_does_60 rfl rfl ?_
      obtain ⟨q28, e29, hf⟩ := z_bd hf
      refine aw_callV X [.ref (ad a1)] [z_i (σ 758 42), .ref (ad 758)] [z_i q28.1, z_i (σ 758 42), .ref (ad 758)] cX12_376 s_758 ciX12 (C_X12_ticks l D cA sa ad bs a1 h_a1 σ q28 e29) rfl ⟨(Nat.le_of_ble_eq_true rfl), (Nat.le_of_ble_eq_true rfl), (Nat.le_of_ble_eq_true rfl), (Nat.le_of_ble_eq_true rfl)⟩ rfl (Nat.le_of_ble_eq_true rfl) rfl dX12_does_61 (fun p30 => ?_)
      refine aw_iadd X dX12_does_64 ?_
      refine aw_putI X s_758 pX12_373 rfl (z_w_in _) dX12_does_65 ?_
      refine aw_iinc X 3 [(6, z_i (z_w (v6 + 1))), (0, .ref (ad 758)), (1, .ref (ad a1)), (3, z_i v3)] dX12_does_68 rfl (by decide) rfl ?_
      refine aw_goto X (tgt := 48) dX12_does_71 (by decide) ?_
      refine aw_sub [1, 2, 3, 0] rfl ?_
      exact ih a1 h_a1 v3 c_v3 (z_w (v6 + 1)) (z_w_in _) (u2 q28.2 758 42 (z_w ((σ 758 42) + q28.1))) hf
set_option maxHeartbeats 4000000 in
set_option maxRecDepth 100000 in
theorem A_X12_does_124 (X : AX p s m args meth c D cA sa bs cX12_does 7 RX12) (hr : meth.sig.returnType = none) : ∀ (k : Nat) (a1 : Nat) (h_a1 : a1 < 788 ∧ SHp a1 = .inr (0, 256, [])) (v6 : Int) (c_v6 : Z_I v6) (σ : Nat → Nat → Int), f_X12_does_124 k a1 v6 σ = some q → AW p l e (ax_rm 7 0 0) s m args below meth c D cA ad bs 788 SHp 0 0 (ax_MQ below args s D cA ad bs 788 SHp 0 0 none True q) 7 124 [(0, .ref (ad 758)), (1, .ref (ad a1)), (6, z_i v6)] [] σ := by
  intro k
  induction k with
  | zero =>
    intro a1 h_a1 v6 c_v6 σ hf
    unfold f_X12_does_124 at hf
    cases hf
  | succ k ih =>
    intro a1 h_a1 v6 c_v6 σ hf
    unfold f_X12_does_124 at hf
    refine aw_iload X 2 dX12_does_124 rfl ?_
    refine aw_iconst X dX12_does_126 ?_
    refine aw_aload_n X 1 dX12_does_127 rfl rfl ?_
    refine aw_bipush X dX12_does_128 (by decide) ?_
    refine aw_iald X (j := 44) h_a1 (z_lit (x := 44) (by decide)) (by decide) (by decide) rfl dX12_does_130 (fun c31 => ?_)
    refine aw_iconst X dX12_does_131 ?_
    refine aw_isub X dX12_does_132 ?_
    refine aw_imul X dX12_does_133 ?_
    refine aw_icmp_ge X (tgt := 157) c_v6 (z_w_in _) dX12_does_134 (by decide) (fun h32 => ?_) (fun h32 => ?_)
    · rw [if_pos h32] at hf
      refine aw_aload_n X 1 dX12_does_157 rfl rfl ?_
      refine aw_bipush X dX12_does_158 (by decide) ?_
      refine aw_dup2 X dX12_does_160 rfl rfl ?_
      refine aw_iald X (j := 44) h_a1 (z_lit (x := 44) (by decide)) (by decide) (by decide) rfl dX12_does_161 (fun c33 => ?_)
      refine aw_iconst X dX12_does_162 ?_
      refine aw_isub X dX12_does_163 ?_
      refine aw_iast X (j := 44) h_a1 (z_lit (x := 44) (by decide)) (by decide) (by decide) rfl (z_w_in _) dX12_does_164 ?_
      refine aw_aload_n X 0 dX12_does_165 rfl rfl ?_
      refine aw_aload_n X 1 dX12_does_166 rfl rfl ?_
      refine aw_bipush X dX12_does_167 (by decide) ?_
      refine aw_iald X (j := 44) h_a1 (z_lit (x := 44) (by decide)) (by decide) (by decide) rfl dX12_does_169 (fun c34 => ?_)
      refine aw_putI X s_758 pX12_373 rfl c34 dX12_does_170 ?_
      refine aw_goto X (tgt := 226) dX12_does_173 (by decide) ?_
      obtain rfl := Option.some.inj hf
      exact aw_vret X trivial hr rfl dX12_does_226
    · rw [if_neg h32] at hf
      refine aw_aload_n X 1 dX12_does_137 rfl rfl ?_
      refine aw_bipush X dX12_does_138 (by decide) ?_
      refine aw_iload X 2 dX12_does_140 rfl ?_
      refine aw_iadd X dX12_does_142 ?_
      refine aw_aload_n X 1 dX12_does_143 rfl rfl ?_
      refine aw_bipush X dX12_does_144 (by decide) ?_
      refine aw_iload X 2 dX12_does_146 rfl ?_
      refine aw_iadd X dX12_does_148 ?_
      obtain ⟨g35, hf⟩ := z_gd hf
      refine aw_iald X (j := (z_w (50 + v6)).toNat) h_a1 (z_w_in _) g35.1 g35.2 rfl dX12_does_149 (fun c36 => ?_)
      obtain ⟨g37, hf⟩ := z_gd hf
      refine aw_iast X (j := (z_w (45 + v6)).toNat) h_a1 (z_w_in _) g37.1 g37.2 rfl c36 dX12_does_150 ?_
      refine aw_iinc X 2 [(6, z_i (z_w (v6 + 1))), (0, .ref (ad 758)), (1, .ref (ad a1))] dX12_does_151 rfl (by decide) rfl ?_
      refine aw_goto X (tgt := 124) dX12_does_154 (by decide) ?_
      refine aw_sub [1, 2, 0] rfl ?_
      exact ih a1 h_a1 (z_w (v6 + 1)) (z_w_in _) (u2 σ a1 (z_w (45 + v6)).toNat (σ a1 (z_w (50 + v6)).toNat)) hf
end S_X12_does
set_option maxHeartbeats 4000000 in
set_option maxRecDepth 100000 in
theorem C_X12_does (l : Launch) (D : va_G) (cA : Nat → ClassId) (sa ad : Nat → Nat) (bs : Nat) (a1 : Nat) (h_a1 : a1 < 788 ∧ SHp a1 = .inr (0, 256, [])) (v2 : Int) (c_v2 : Z_I v2) (v3 : Int) (c_v3 : Z_I v3) (v4 : Int) (c_v4 : Z_I v4) (v5 : Int) (c_v5 : Z_I v5) (σ : Nat → Nat → Int) (q : (Nat → Nat → Int)) (hf : f_X12_does a1 v2 v3 v4 v5 σ = some q) : AM l D cA sa ad bs 788 SHp yX12_does cX12_does 7 none 7 [.ref (ad 758), .ref (ad a1), z_i v2, z_i v3, z_i v4, z_i v5] σ none True q := by
  refine am_of (by decide +kernel) (Nat.le_of_ble_eq_true rfl) (fun p e s m args below meth c X hr => ?_)
  refine aw_lv (lv' := [(0, .ref (ad 758)), (1, .ref (ad a1)), (2, z_i v2), (3, z_i v3), (4, z_i v4), (5, z_i v5)]) rfl ?_
  unfold f_X12_does at hf
  refine aw_iload_n X 2 dX12_does_0 rfl rfl ?_
  by_cases h1 : v2 = 0
  · rw [if_pos h1] at hf
    refine aw_tabIn X (tgt := 40) c_v2 dX12_does_1 (by omega) (by omega) (by rw [h1]; rfl) (by decide) ?_
    refine aw_aload_n X 0 dX12_does_40 rfl rfl ?_
    refine aw_iconst X dX12_does_41 ?_
    refine aw_putI X s_758 pX12_373 rfl (z_lit (x := 0) (by decide)) dX12_does_42 ?_
    refine aw_iconst X dX12_does_45 ?_
    refine aw_istore X [(6, z_i 0), (0, .ref (ad 758)), (1, .ref (ad a1)), (2, z_i v2), (3, z_i v3), (4, z_i v4), (5, z_i v5)] dX12_does_46 (by decide) rfl ?_
    refine aw_sub [1, 2, 4, 0] rfl ?_
    exact A_X12_does_48 X hr 100000 a1 h_a1 v3 c_v3 0 (z_lit (x := 0) (by decide)) (u2 σ 758 42 0) hf
  rw [if_neg h1] at hf
  by_cases h2 : v2 = 1
  · rw [if_pos h2] at hf
    refine aw_tabIn X (tgt := 77) c_v2 dX12_does_1 (by omega) (by omega) (by rw [h2]; rfl) (by decide) ?_
    refine aw_aload_n X 0 dX12_does_77 rfl rfl ?_
    refine aw_aload_n X 1 dX12_does_78 rfl rfl ?_
    refine aw_bipush X dX12_does_79 (by decide) ?_
    refine aw_iload_n X 3 dX12_does_81 rfl rfl ?_
    refine aw_iadd X dX12_does_82 ?_
    obtain ⟨g3, hf⟩ := z_gd hf
    refine aw_iald X (j := (z_w (21 + v3)).toNat) h_a1 (z_w_in _) g3.1 g3.2 rfl dX12_does_83 (fun c4 => ?_)
    refine aw_putI X s_758 pX12_373 rfl c4 dX12_does_84 ?_
    refine aw_aload_n X 1 dX12_does_87 rfl rfl ?_
    refine aw_bipush X dX12_does_88 (by decide) ?_
    refine aw_iload_n X 3 dX12_does_90 rfl rfl ?_
    refine aw_iadd X dX12_does_91 ?_
    refine aw_iload X 4 dX12_does_92 rfl ?_
    obtain ⟨g5, hf⟩ := z_gd hf
    refine aw_iast X (j := (z_w (21 + v3)).toNat) h_a1 (z_w_in _) g5.1 g5.2 rfl c_v4 dX12_does_94 ?_
    refine aw_goto X (tgt := 226) dX12_does_95 (by decide) ?_
    obtain rfl := Option.some.inj hf
    exact aw_vret X trivial hr rfl dX12_does_226
  rw [if_neg h2] at hf
  by_cases h6 : v2 = 2
  · rw [if_pos h6] at hf
    refine aw_tabIn X (tgt := 98) c_v2 dX12_does_1 (by omega) (by omega) (by rw [h6]; rfl) (by decide) ?_
    refine aw_aload_n X 0 dX12_does_98 rfl rfl ?_
    refine aw_aload_n X 1 dX12_does_99 rfl rfl ?_
    refine aw_iload_n X 3 dX12_does_100 rfl rfl ?_
    refine aw_iload X 4 dX12_does_101 rfl ?_
    refine aw_iload X 5 dX12_does_103 rfl ?_
    obtain ⟨q7, e8, hf⟩ := z_bd hf
    refine aw_callV X [.ref (ad a1), z_i v3, z_i v4, z_i v5] [] [] cX12_379 s_758 ciX12 (C_X12_asksAs l D cA sa ad bs a1 h_a1 v3 c_v3 v4 c_v4 v5 c_v5 σ q7 e8) rfl ⟨(Nat.le_of_ble_eq_true rfl), (Nat.le_of_ble_eq_true rfl), (Nat.le_of_ble_eq_true rfl), (Nat.le_of_ble_eq_true rfl)⟩ rfl (Nat.le_of_ble_eq_true rfl) rfl dX12_does_105 (fun p9 => ?_)
    refine aw_goto X (tgt := 226) dX12_does_108 (by decide) ?_
    obtain rfl := Option.some.inj hf
    exact aw_vret X trivial hr rfl dX12_does_226
  rw [if_neg h6] at hf
  by_cases h10 : v2 = 3
  · rw [if_pos h10] at hf
    refine aw_tabIn X (tgt := 111) c_v2 dX12_does_1 (by omega) (by omega) (by rw [h10]; rfl) (by decide) ?_
    refine aw_iconst X dX12_does_111 ?_
    refine aw_aload_n X 1 dX12_does_112 rfl rfl ?_
    refine aw_aload_n X 0 dX12_does_113 rfl rfl ?_
    refine aw_getL X s_758 fX12_353 rfl dX12_does_114 (fun c11 => ?_)
    refine aw_iload_n X 3 dX12_does_117 rfl rfl ?_
    obtain ⟨q12, e13, hf⟩ := z_bd hf
    refine aw_callS X [.ref (ad a1), z_v (σ 758 41), z_i v3] [z_i 5] [z_i q12, z_i 5] cX12_356 (C_X12_askOf l D cA sa ad bs a1 h_a1 (σ 758 41) c11 v3 c_v3 σ q12 e13) rfl ⟨(Nat.le_of_ble_eq_true rfl), (Nat.le_of_ble_eq_true rfl), (Nat.le_of_ble_eq_true rfl), (Nat.le_of_ble_eq_true rfl)⟩ rfl (Nat.le_of_ble_eq_true rfl) rfl dX12_does_118 (fun p14 => ?_)
    refine aw_imul X dX12_does_121 ?_
    refine aw_istore X [(6, z_i (z_w (5 * q12))), (0, .ref (ad 758)), (1, .ref (ad a1)), (2, z_i v2), (3, z_i v3), (4, z_i v4), (5, z_i v5)] dX12_does_122 (by decide) rfl ?_
    refine aw_sub [1, 2, 0] rfl ?_
    exact A_X12_does_124 X hr 100000 a1 h_a1 (z_w (5 * q12)) (z_w_in _) σ hf
  rw [if_neg h10] at hf
  by_cases h15 : v2 = 4
  · rw [if_pos h15] at hf
    refine aw_tabIn X (tgt := 176) c_v2 dX12_does_1 (by omega) (by omega) (by rw [h15]; rfl) (by decide) ?_
    refine aw_aload_n X 0 dX12_does_176 rfl rfl ?_
    refine aw_aload_n X 1 dX12_does_177 rfl rfl ?_
    refine aw_bipush X dX12_does_178 (by decide) ?_
    refine aw_iload_n X 3 dX12_does_180 rfl rfl ?_
    refine aw_iadd X dX12_does_181 ?_
    obtain ⟨g16, hf⟩ := z_gd hf
    refine aw_iald X (j := (z_w (25 + v3)).toNat) h_a1 (z_w_in _) g16.1 g16.2 rfl dX12_does_182 (fun c17 => ?_)
    refine aw_putI X s_758 pX12_373 rfl c17 dX12_does_183 ?_
    refine aw_aload_n X 1 dX12_does_186 rfl rfl ?_
    refine aw_bipush X dX12_does_187 (by decide) ?_
    refine aw_iload_n X 3 dX12_does_189 rfl rfl ?_
    refine aw_iadd X dX12_does_190 ?_
    refine aw_iconst X dX12_does_191 ?_
    obtain ⟨g18, hf⟩ := z_gd hf
    refine aw_iast X (j := (z_w (25 + v3)).toNat) h_a1 (z_w_in _) g18.1 g18.2 rfl (z_lit (x := 0) (by decide)) dX12_does_192 ?_
    refine aw_aload_n X 1 dX12_does_193 rfl rfl ?_
    refine aw_bipush X dX12_does_194 (by decide) ?_
    refine aw_iload_n X 3 dX12_does_196 rfl rfl ?_
    refine aw_iadd X dX12_does_197 ?_
    refine aw_iconst X dX12_does_198 ?_
    obtain ⟨g19, hf⟩ := z_gd hf
    refine aw_iast X (j := (z_w (37 + v3)).toNat) h_a1 (z_w_in _) g19.1 g19.2 rfl (z_lit (x := 1) (by decide)) dX12_does_199 ?_
    refine aw_goto X (tgt := 226) dX12_does_200 (by decide) ?_
    obtain rfl := Option.some.inj hf
    exact aw_vret X trivial hr rfl dX12_does_226
  rw [if_neg h15] at hf
  by_cases h20 : v2 = 5
  · rw [if_pos h20] at hf
    refine aw_tabIn X (tgt := 203) c_v2 dX12_does_1 (by omega) (by omega) (by rw [h20]; rfl) (by decide) ?_
    refine aw_aload_n X 1 dX12_does_203 rfl rfl ?_
    refine aw_bipush X dX12_does_204 (by decide) ?_
    refine aw_iload_n X 3 dX12_does_206 rfl rfl ?_
    refine aw_iadd X dX12_does_207 ?_
    refine aw_iconst X dX12_does_208 ?_
    obtain ⟨g21, hf⟩ := z_gd hf
    refine aw_iast X (j := (z_w (37 + v3)).toNat) h_a1 (z_w_in _) g21.1 g21.2 rfl (z_lit (x := 0) (by decide)) dX12_does_209 ?_
    refine aw_aload_n X 0 dX12_does_210 rfl rfl ?_
    refine aw_aload_n X 1 dX12_does_211 rfl rfl ?_
    refine aw_bipush X dX12_does_212 (by decide) ?_
    refine aw_iald X (j := 41) h_a1 (z_lit (x := 41) (by decide)) (by decide) (by decide) rfl dX12_does_214 (fun c22 => ?_)
    refine aw_putI X s_758 pX12_373 rfl c22 dX12_does_215 ?_
    refine aw_goto X (tgt := 226) dX12_does_218 (by decide) ?_
    obtain rfl := Option.some.inj hf
    exact aw_vret X trivial hr rfl dX12_does_226
  rw [if_neg h20] at hf
  refine aw_tabOut X (tgt := 221) c_v2 dX12_does_1 (by omega) (by decide) ?_
  refine aw_aload_n X 0 dX12_does_221 rfl rfl ?_
  refine aw_aload_n X 1 dX12_does_222 rfl rfl ?_
  obtain ⟨q23, e24, hf⟩ := z_bd hf
  refine aw_callV X [.ref (ad a1)] [] [] cX12_383 s_758 ciX12 (C_X12_settles l D cA sa ad bs a1 h_a1 σ q23 e24) rfl ⟨(Nat.le_of_ble_eq_true rfl), (Nat.le_of_ble_eq_true rfl), (Nat.le_of_ble_eq_true rfl), (Nat.le_of_ble_eq_true rfl)⟩ rfl (Nat.le_of_ble_eq_true rfl) rfl dX12_does_223 (fun p25 => ?_)
  obtain rfl := Option.some.inj hf
  exact aw_vret X trivial hr rfl dX12_does_226
-- SpeedDeskModel.tries(IIII)I
section S_X12_tries
variable {p : Program} {l : Launch} {e : Env} {s : State} {m : MethodId} {args : Array Value} {below : List Frame} {meth : Method} {c : Code} {D : va_G} {cA : Nat → ClassId} {sa ad : Nat → Nat} {bs : Nat} {q : (Int × (Nat → Nat → Int))}
set_option maxHeartbeats 4000000 in
set_option maxRecDepth 100000 in
theorem A_X12_tries_57 (X : AX p s m args meth c D cA sa bs cX12_tries 6 RX12) (hr : meth.sig.returnType = (some .int)) (t0 : Int) (c_t0 : Z_I t0) (t1 : Int) (c_t1 : Z_I t1) (σ : Nat → Nat → Int) (hf : f_X12_tries_57 t0 t1 σ = some q) : AW p l e (ax_rm 8 0 0) s m args below meth c D cA ad bs 788 SHp 0 0 (ax_MQ below args s D cA ad bs 788 SHp 0 0 (some (z_i q.1)) (Z_I q.1) q.2) 6 57 [] [z_i t0, z_i t1, .ref (ad 758)] σ := by
  unfold f_X12_tries_57 at hf
  obtain ⟨q13, e14, hf⟩ := z_bd hf
  refine aw_callV X [z_i t1, z_i t0] [] [] cX12_400 s_758 ciX12 (C_X12_notes l D cA sa ad bs t1 c_t1 t0 c_t0 σ q13 e14) rfl ⟨(Nat.le_of_ble_eq_true rfl), (Nat.le_of_ble_eq_true rfl), (Nat.le_of_ble_eq_true rfl), (Nat.le_of_ble_eq_true rfl)⟩ rfl (Nat.le_of_ble_eq_true rfl) rfl dX12_tries_57 (fun p15 => ?_)
  refine aw_iconst X dX12_tries_60 ?_
  obtain rfl := Option.some.inj hf
  exact aw_iret X (z_lit (x := (-1)) (by decide)) hr rfl dX12_tries_61
end S_X12_tries
set_option maxHeartbeats 4000000 in
set_option maxRecDepth 100000 in
theorem C_X12_tries (l : Launch) (D : va_G) (cA : Nat → ClassId) (sa ad : Nat → Nat) (bs : Nat) (v1 : Int) (c_v1 : Z_I v1) (v2 : Int) (c_v2 : Z_I v2) (v3 : Int) (c_v3 : Z_I v3) (v4 : Int) (c_v4 : Z_I v4) (σ : Nat → Nat → Int) (q : (Int × (Nat → Nat → Int))) (hf : f_X12_tries v1 v2 v3 v4 σ = some q) : AM l D cA sa ad bs 788 SHp yX12_tries cX12_tries 6 (some .int) 8 [.ref (ad 758), z_i v1, z_i v2, z_i v3, z_i v4] σ (some (z_i q.1)) (Z_I q.1) q.2 := by
  refine am_of (by decide +kernel) (Nat.le_of_ble_eq_true rfl) (fun p e s m args below meth c X hr => ?_)
  refine aw_lv (lv' := [(0, .ref (ad 758)), (1, z_i v1), (2, z_i v2), (3, z_i v3), (4, z_i v4)]) rfl ?_
  unfold f_X12_tries at hf
  refine aw_aload_n X 0 dX12_tries_0 rfl rfl ?_
  refine aw_aload_n X 0 dX12_tries_1 rfl rfl ?_
  refine aw_getR X s_758 fX12_63 rfl dX12_tries_2 ?_
  refine aw_iload_n X 1 dX12_tries_5 rfl rfl ?_
  refine aw_iload_n X 2 dX12_tries_6 rfl rfl ?_
  refine aw_iload_n X 3 dX12_tries_7 rfl rfl ?_
  refine aw_iload X 4 dX12_tries_8 rfl ?_
  obtain ⟨q1, e2, hf⟩ := z_bd hf
  refine aw_callV X [.ref (ad 776), z_i v1, z_i v2, z_i v3, z_i v4] [] [z_i q1.1] cX12_389 s_758 ciX12 (C_X12_stops l D cA sa ad bs 776 s_776 v1 c_v1 v2 c_v2 v3 c_v3 v4 c_v4 σ q1 e2) rfl ⟨(Nat.le_of_ble_eq_true rfl), (Nat.le_of_ble_eq_true rfl), (Nat.le_of_ble_eq_true rfl), (Nat.le_of_ble_eq_true rfl)⟩ rfl (Nat.le_of_ble_eq_true rfl) rfl dX12_tries_10 (fun p3 => ?_)
  refine aw_istore X [(5, z_i q1.1), (0, .ref (ad 758)), (1, z_i v1), (2, z_i v2), (3, z_i v3), (4, z_i v4)] dX12_tries_13 (by decide) rfl ?_
  refine aw_iload X 0 dX12_tries_15 rfl ?_
  refine aw_iconst X dX12_tries_17 ?_
  refine aw_icmp_eq X (tgt := 24) p3 (z_lit (x := (-1)) (by decide)) dX12_tries_18 (by decide) (fun h4 => ?_) (fun h4 => ?_)
  · rw [if_pos h4] at hf
    refine aw_aload_n X 1 dX12_tries_24 rfl rfl ?_
    obtain ⟨q5, e6, hf⟩ := z_bd hf
    refine aw_callV X [] [] [] cX12_393 s_758 ciX12 (C_X12_remember l D cA sa ad bs q1.2 q5 e6) rfl ⟨(Nat.le_of_ble_eq_true rfl), (Nat.le_of_ble_eq_true rfl), (Nat.le_of_ble_eq_true rfl), (Nat.le_of_ble_eq_true rfl)⟩ rfl (Nat.le_of_ble_eq_true rfl) rfl dX12_tries_25 (fun p7 => ?_)
    refine aw_aload_n X 1 dX12_tries_28 rfl rfl ?_
    refine aw_aload_n X 1 dX12_tries_29 rfl rfl ?_
    refine aw_getR X s_758 fX12_63 rfl dX12_tries_30 ?_
    refine aw_iload_n X 2 dX12_tries_33 rfl rfl ?_
    refine aw_iload_n X 3 dX12_tries_34 rfl rfl ?_
    refine aw_iload_n X 4 dX12_tries_35 rfl rfl ?_
    refine aw_iload X 5 dX12_tries_36 rfl ?_
    obtain ⟨q8, e9, hf⟩ := z_bd hf
    refine aw_callV X [.ref (ad 776), z_i v1, z_i v2, z_i v3, z_i v4] [] [] cX12_396 s_758 ciX12 (C_X12_does l D cA sa ad bs 776 s_776 v1 c_v1 v2 c_v2 v3 c_v3 v4 c_v4 q5 q8 e9) rfl ⟨(Nat.le_of_ble_eq_true rfl), (Nat.le_of_ble_eq_true rfl), (Nat.le_of_ble_eq_true rfl), (Nat.le_of_ble_eq_true rfl)⟩ rfl (Nat.le_of_ble_eq_true rfl) rfl dX12_tries_38 (fun p10 => ?_)
    refine aw_aload_n X 1 dX12_tries_41 rfl rfl ?_
    refine aw_iload_n X 2 dX12_tries_42 rfl rfl ?_
    refine aw_iload_n X 2 dX12_tries_43 rfl rfl ?_
    refine aw_bipush X dX12_tries_44 (by decide) ?_
    refine aw_icmp_ne X (tgt := 56) c_v1 (z_lit (x := 6) (by decide)) dX12_tries_46 (by decide) (fun h11 => ?_) (fun h11 => ?_)
    · simp only [if_neg h11] at hf
      refine aw_iload_n X 3 dX12_tries_56 rfl rfl ?_
      refine aw_sub [] rfl ?_
      exact A_X12_tries_57 X hr v2 c_v2 v1 c_v1 q8 hf
    · simp only [if_pos h11] at hf
      refine aw_aload_n X 1 dX12_tries_49 rfl rfl ?_
      refine aw_getI X s_758 fX12_373 rfl dX12_tries_50 (fun c12 => ?_)
      refine aw_goto X (tgt := 57) dX12_tries_53 (by decide) ?_
      refine aw_sub [] rfl ?_
      exact A_X12_tries_57 X hr (q8 758 42) c12 v1 c_v1 q8 hf
  · rw [if_neg h4] at hf
    refine aw_iload X 0 dX12_tries_21 rfl ?_
    obtain rfl := Option.some.inj hf
    exact aw_iret X p3 hr rfl dX12_tries_23
-- SpeedDeskModel.act(IIII)I
section S_X12_act
variable {p : Program} {l : Launch} {e : Env} {s : State} {m : MethodId} {args : Array Value} {below : List Frame} {meth : Method} {c : Code} {D : va_G} {cA : Nat → ClassId} {sa ad : Nat → Nat} {bs : Nat} {q : (Int × (Nat → Nat → Int))}

end S_X12_act
set_option maxHeartbeats 4000000 in
set_option maxRecDepth 100000 in
theorem C_X12_act (l : Launch) (D : va_G) (cA : Nat → ClassId) (sa ad : Nat → Nat) (bs : Nat) (v1 : Int) (c_v1 : Z_I v1) (v2 : Int) (c_v2 : Z_I v2) (v3 : Int) (c_v3 : Z_I v3) (v4 : Int) (c_v4 : Z_I v4) (σ : Nat → Nat → Int) (q : (Int × (Nat → Nat → Int))) (hf : f_X12_act v1 v2 v3 v4 σ = some q) : AM l D cA sa ad bs 788 SHp yX12_act cX12_act 6 (some .int) 9 [.ref (ad 758), z_i v1, z_i v2, z_i v3, z_i v4] σ (some (z_i q.1)) (Z_I q.1) q.2 := by
  refine am_of (by decide +kernel) (Nat.le_of_ble_eq_true rfl) (fun p e s m args below meth c X hr => ?_)
  refine aw_lv (lv' := [(0, .ref (ad 758)), (1, z_i v1), (2, z_i v2), (3, z_i v3), (4, z_i v4)]) rfl ?_
  unfold f_X12_act at hf
  refine aw_aload_n X 0 dX12_act_0 rfl rfl ?_
  refine aw_iconst X dX12_act_1 ?_
  refine aw_putI X s_758 pX12_101 rfl (z_lit (x := 0) (by decide)) dX12_act_2 ?_
  refine aw_aload_n X 0 dX12_act_5 rfl rfl ?_
  refine aw_iload_n X 1 dX12_act_6 rfl rfl ?_
  refine aw_iload_n X 2 dX12_act_7 rfl rfl ?_
  refine aw_iload_n X 3 dX12_act_8 rfl rfl ?_
  refine aw_iload X 4 dX12_act_9 rfl ?_
  obtain ⟨q1, e2, hf⟩ := z_bd hf
  refine aw_callV X [z_i v1, z_i v2, z_i v3, z_i v4] [] [z_i q1.1] cX12_404 s_758 ciX12 (C_X12_tries l D cA sa ad bs v1 c_v1 v2 c_v2 v3 c_v3 v4 c_v4 (u2 σ 758 0 0) q1 e2) rfl ⟨(Nat.le_of_ble_eq_true rfl), (Nat.le_of_ble_eq_true rfl), (Nat.le_of_ble_eq_true rfl), (Nat.le_of_ble_eq_true rfl)⟩ rfl (Nat.le_of_ble_eq_true rfl) rfl dX12_act_11 (fun p3 => ?_)
  refine aw_istore X [(5, z_i q1.1), (0, .ref (ad 758)), (1, z_i v1), (2, z_i v2), (3, z_i v3), (4, z_i v4)] dX12_act_14 (by decide) rfl ?_
  refine aw_iload X 0 dX12_act_16 rfl ?_
  refine aw_iconst X dX12_act_18 ?_
  refine aw_icmp_ne X (tgt := 27) p3 (z_lit (x := (-1)) (by decide)) dX12_act_19 (by decide) (fun h4 => ?_) (fun h4 => ?_)
  · rw [if_neg h4] at hf
    refine aw_aload_n X 1 dX12_act_27 rfl rfl ?_
    refine aw_getR X s_758 fX12_38 rfl dX12_act_28 ?_
    refine aw_iload X 0 dX12_act_31 rfl ?_
    refine aw_dup2 X dX12_act_33 rfl rfl ?_
    obtain ⟨g5, hf⟩ := z_gd hf
    refine aw_iald X (j := q1.1.toNat) s_768 p3 g5.1 g5.2 rfl dX12_act_34 (fun c6 => ?_)
    refine aw_iconst X dX12_act_35 ?_
    refine aw_iadd X dX12_act_36 ?_
    obtain ⟨g7, hf⟩ := z_gd hf
    refine aw_iast X (j := q1.1.toNat) s_768 p3 g7.1 g7.2 rfl (z_w_in _) dX12_act_37 ?_
    refine aw_iconst X dX12_act_38 ?_
    obtain rfl := Option.some.inj hf
    exact aw_iret X (z_lit (x := (-1)) (by decide)) hr rfl dX12_act_39
  · rw [if_pos h4] at hf
    refine aw_aload_n X 1 dX12_act_22 rfl rfl ?_
    refine aw_getI X s_758 fX12_373 rfl dX12_act_23 (fun c8 => ?_)
    obtain rfl := Option.some.inj hf
    exact aw_iret X c8 hr rfl dX12_act_26
-- SpeedDeskModel.tick(I)I
section S_X12_tick
variable {p : Program} {l : Launch} {e : Env} {s : State} {m : MethodId} {args : Array Value} {below : List Frame} {meth : Method} {c : Code} {D : va_G} {cA : Nat → ClassId} {sa ad : Nat → Nat} {bs : Nat} {q : (Int × (Nat → Nat → Int))}

end S_X12_tick
set_option maxHeartbeats 4000000 in
set_option maxRecDepth 100000 in
theorem C_X12_tick (l : Launch) (D : va_G) (cA : Nat → ClassId) (sa ad : Nat → Nat) (bs : Nat) (v1 : Int) (c_v1 : Z_I v1) (σ : Nat → Nat → Int) (q : (Int × (Nat → Nat → Int))) (hf : f_X12_tick v1 σ = some q) : AM l D cA sa ad bs 788 SHp yX12_tick cX12_tick 2 (some .int) 10 [.ref (ad 758), z_i v1] σ (some (z_i q.1)) (Z_I q.1) q.2 := by
  refine am_of (by decide +kernel) (Nat.le_of_ble_eq_true rfl) (fun p e s m args below meth c X hr => ?_)
  refine aw_lv (lv' := [(0, .ref (ad 758)), (1, z_i v1)]) rfl ?_
  unfold f_X12_tick at hf
  refine aw_aload_n X 0 dX12_tick_0 rfl rfl ?_
  refine aw_iconst X dX12_tick_1 ?_
  refine aw_iload_n X 1 dX12_tick_2 rfl rfl ?_
  refine aw_iconst X dX12_tick_3 ?_
  refine aw_iconst X dX12_tick_4 ?_
  obtain ⟨q1, e2, hf⟩ := z_bd hf
  refine aw_callV X [z_i 0, z_i v1, z_i 0, z_i 0] [] [z_i q1.1] cX12_408 s_758 ciX12 (C_X12_act l D cA sa ad bs 0 (z_lit (x := 0) (by decide)) v1 c_v1 0 (z_lit (x := 0) (by decide)) 0 (z_lit (x := 0) (by decide)) σ q1 e2) rfl ⟨(Nat.le_of_ble_eq_true rfl), (Nat.le_of_ble_eq_true rfl), (Nat.le_of_ble_eq_true rfl), (Nat.le_of_ble_eq_true rfl)⟩ rfl (Nat.le_of_ble_eq_true rfl) rfl dX12_tick_5 (fun p3 => ?_)
  obtain rfl := Option.some.inj hf
  exact aw_iret X p3 hr rfl dX12_tick_8
-- SpeedDeskModel.move(II)I
section S_X12_move
variable {p : Program} {l : Launch} {e : Env} {s : State} {m : MethodId} {args : Array Value} {below : List Frame} {meth : Method} {c : Code} {D : va_G} {cA : Nat → ClassId} {sa ad : Nat → Nat} {bs : Nat} {q : (Int × (Nat → Nat → Int))}

end S_X12_move
set_option maxHeartbeats 4000000 in
set_option maxRecDepth 100000 in
theorem C_X12_move (l : Launch) (D : va_G) (cA : Nat → ClassId) (sa ad : Nat → Nat) (bs : Nat) (v1 : Int) (c_v1 : Z_I v1) (v2 : Int) (c_v2 : Z_I v2) (σ : Nat → Nat → Int) (q : (Int × (Nat → Nat → Int))) (hf : f_X12_move v1 v2 σ = some q) : AM l D cA sa ad bs 788 SHp yX12_move cX12_move 3 (some .int) 10 [.ref (ad 758), z_i v1, z_i v2] σ (some (z_i q.1)) (Z_I q.1) q.2 := by
  refine am_of (by decide +kernel) (Nat.le_of_ble_eq_true rfl) (fun p e s m args below meth c X hr => ?_)
  refine aw_lv (lv' := [(0, .ref (ad 758)), (1, z_i v1), (2, z_i v2)]) rfl ?_
  unfold f_X12_move at hf
  refine aw_aload_n X 0 dX12_move_0 rfl rfl ?_
  refine aw_iconst X dX12_move_1 ?_
  refine aw_iload_n X 1 dX12_move_2 rfl rfl ?_
  refine aw_iload_n X 2 dX12_move_3 rfl rfl ?_
  refine aw_iconst X dX12_move_4 ?_
  obtain ⟨q1, e2, hf⟩ := z_bd hf
  refine aw_callV X [z_i 1, z_i v1, z_i v2, z_i 0] [] [z_i q1.1] cX12_408 s_758 ciX12 (C_X12_act l D cA sa ad bs 1 (z_lit (x := 1) (by decide)) v1 c_v1 v2 c_v2 0 (z_lit (x := 0) (by decide)) σ q1 e2) rfl ⟨(Nat.le_of_ble_eq_true rfl), (Nat.le_of_ble_eq_true rfl), (Nat.le_of_ble_eq_true rfl), (Nat.le_of_ble_eq_true rfl)⟩ rfl (Nat.le_of_ble_eq_true rfl) rfl dX12_move_5 (fun p3 => ?_)
  obtain rfl := Option.some.inj hf
  exact aw_iret X p3 hr rfl dX12_move_8
-- SpeedDeskModel.actBy(IIII)I
section S_X12_actBy
variable {p : Program} {l : Launch} {e : Env} {s : State} {m : MethodId} {args : Array Value} {below : List Frame} {meth : Method} {c : Code} {D : va_G} {cA : Nat → ClassId} {sa ad : Nat → Nat} {bs : Nat} {q : (Int × (Nat → Nat → Int))}
set_option maxHeartbeats 4000000 in
set_option maxRecDepth 100000 in
theorem A_X12_actBy_58 (X : AX p s m args meth c D cA sa bs cX12_actBy 6 RX12) (hr : meth.sig.returnType = (some .int)) (v5 : Int) (c_v5 : Z_I v5) (σ : Nat → Nat → Int) (hf : f_X12_actBy_58 v5 σ = some q) : AW p l e (ax_rm 12 0 0) s m args below meth c D cA ad bs 788 SHp 0 0 (ax_MQ below args s D cA ad bs 788 SHp 0 0 (some (z_i q.1)) (Z_I q.1) q.2) 6 58 [(0, .ref (ad 758)), (5, z_i v5)] [] σ := by
  unfold f_X12_actBy_58 at hf
  refine aw_iload X 1 dX12_actBy_58 rfl ?_
  refine aw_iconst X dX12_actBy_60 ?_
  refine aw_icmp_ne X (tgt := 74) c_v5 (z_lit (x := (-1)) (by decide)) dX12_actBy_61 (by decide) (fun h14 => ?_) (fun h14 => ?_)
  · rw [if_neg h14] at hf
    refine aw_aload_n X 0 dX12_actBy_74 rfl rfl ?_
    refine aw_getR X s_758 fX12_38 rfl dX12_actBy_75 ?_
    refine aw_iload X 1 dX12_actBy_78 rfl ?_
    refine aw_dup2 X dX12_actBy_80 rfl rfl ?_
    obtain ⟨g15, hf⟩ := z_gd hf
    refine aw_iald X (j := v5.toNat) s_768 c_v5 g15.1 g15.2 rfl dX12_actBy_81 (fun c16 => ?_)
    refine aw_iconst X dX12_actBy_82 ?_
    refine aw_iadd X dX12_actBy_83 ?_
    obtain ⟨g17, hf⟩ := z_gd hf
    refine aw_iast X (j := v5.toNat) s_768 c_v5 g17.1 g17.2 rfl (z_w_in _) dX12_actBy_84 ?_
    refine aw_iconst X dX12_actBy_85 ?_
    obtain rfl := Option.some.inj hf
    exact aw_iret X (z_lit (x := (-1)) (by decide)) hr rfl dX12_actBy_86
  · rw [if_pos h14] at hf
    refine aw_aload_n X 0 dX12_actBy_64 rfl rfl ?_
    refine aw_iconst X dX12_actBy_65 ?_
    refine aw_putI X s_758 pX12_104 rfl (z_lit (x := 0) (by decide)) dX12_actBy_66 ?_
    refine aw_aload_n X 0 dX12_actBy_69 rfl rfl ?_
    refine aw_getI X s_758 fX12_373 rfl dX12_actBy_70 (fun c18 => ?_)
    obtain rfl := Option.some.inj hf
    exact aw_iret X c18 hr rfl dX12_actBy_73
set_option maxHeartbeats 4000000 in
set_option maxRecDepth 100000 in
theorem A_X12_actBy_31 (X : AX p s m args meth c D cA sa bs cX12_actBy 6 RX12) (hr : meth.sig.returnType = (some .int)) (v1 : Int) (c_v1 : Z_I v1) (v2 : Int) (c_v2 : Z_I v2) (v3 : Int) (c_v3 : Z_I v3) (v4 : Int) (c_v4 : Z_I v4) (t0 : Int) (c_t0 : Z_I t0) (σ : Nat → Nat → Int) (hf : f_X12_actBy_31 v1 v2 v3 v4 t0 σ = some q) : AW p l e (ax_rm 12 0 0) s m args below meth c D cA ad bs 788 SHp 0 0 (ax_MQ below args s D cA ad bs 788 SHp 0 0 (some (z_i q.1)) (Z_I q.1) q.2) 6 31 [(0, .ref (ad 758)), (1, z_i v1), (2, z_i v2), (3, z_i v3), (4, z_i v4)] [z_i t0] σ := by
  unfold f_X12_actBy_31 at hf
  refine aw_istore X [(5, z_i t0), (0, .ref (ad 758)), (1, z_i v1), (2, z_i v2), (3, z_i v3), (4, z_i v4)] dX12_actBy_31 (by decide) rfl ?_
  refine aw_aload_n X 1 dX12_actBy_33 rfl rfl ?_
  refine aw_aload_n X 1 dX12_actBy_34 rfl rfl ?_
  refine aw_getL X s_758 fX12_139 rfl dX12_actBy_35 (fun c9 => ?_)
  refine aw_putL X s_758 pX12_353 rfl c9 dX12_actBy_38 ?_
  refine aw_iload X 0 dX12_actBy_41 rfl ?_
  refine aw_iconst X dX12_actBy_43 ?_
  refine aw_icmp_ne X (tgt := 58) c_t0 (z_lit (x := (-1)) (by decide)) dX12_actBy_44 (by decide) (fun h10 => ?_) (fun h10 => ?_)
  · rw [if_neg h10] at hf
    refine aw_sub [1, 0] rfl ?_
    exact A_X12_actBy_58 X hr t0 c_t0 (u2 σ 758 41 (σ 758 6)) hf
  · rw [if_pos h10] at hf
    refine aw_aload_n X 1 dX12_actBy_47 rfl rfl ?_
    refine aw_iload_n X 2 dX12_actBy_48 rfl rfl ?_
    refine aw_iload_n X 3 dX12_actBy_49 rfl rfl ?_
    refine aw_iload_n X 4 dX12_actBy_50 rfl rfl ?_
    refine aw_iload X 5 dX12_actBy_51 rfl ?_
    obtain ⟨q11, e12, hf⟩ := z_bd hf
    refine aw_callV X [z_i v1, z_i v2, z_i v3, z_i v4] [] [z_i q11.1] cX12_404 s_758 ciX12 (C_X12_tries l D cA sa ad bs v1 c_v1 v2 c_v2 v3 c_v3 v4 c_v4 (u2 σ 758 41 (σ 758 6)) q11 e12) rfl ⟨(Nat.le_of_ble_eq_true rfl), (Nat.le_of_ble_eq_true rfl), (Nat.le_of_ble_eq_true rfl), (Nat.le_of_ble_eq_true rfl)⟩ rfl (Nat.le_of_ble_eq_true rfl) rfl dX12_actBy_53 (fun p13 => ?_)
    refine aw_istore X [(5, z_i q11.1), (0, .ref (ad 758)), (1, z_i v1), (2, z_i v2), (3, z_i v3), (4, z_i v4)] dX12_actBy_56 (by decide) rfl ?_
    refine aw_sub [1, 0] rfl ?_
    exact A_X12_actBy_58 X hr q11.1 p13 q11.2 hf
end S_X12_actBy
set_option maxHeartbeats 4000000 in
set_option maxRecDepth 100000 in
theorem C_X12_actBy (l : Launch) (D : va_G) (cA : Nat → ClassId) (sa ad : Nat → Nat) (bs : Nat) (v1 : Int) (c_v1 : Z_I v1) (v2 : Int) (c_v2 : Z_I v2) (v3 : Int) (c_v3 : Z_I v3) (v4 : Int) (c_v4 : Z_I v4) (σ : Nat → Nat → Int) (q : (Int × (Nat → Nat → Int))) (hf : f_X12_actBy v1 v2 v3 v4 σ = some q) : AM l D cA sa ad bs 788 SHp yX12_actBy cX12_actBy 6 (some .int) 12 [.ref (ad 758), z_i v1, z_i v2, z_i v3, z_i v4] σ (some (z_i q.1)) (Z_I q.1) q.2 := by
  refine am_of (by decide +kernel) (Nat.le_of_ble_eq_true rfl) (fun p e s m args below meth c X hr => ?_)
  refine aw_lv (lv' := [(0, .ref (ad 758)), (1, z_i v1), (2, z_i v2), (3, z_i v3), (4, z_i v4)]) rfl ?_
  unfold f_X12_actBy at hf
  refine aw_aload_n X 0 dX12_actBy_0 rfl rfl ?_
  refine aw_iconst X dX12_actBy_1 ?_
  refine aw_putI X s_758 pX12_101 rfl (z_lit (x := 0) (by decide)) dX12_actBy_2 ?_
  refine aw_aload_n X 0 dX12_actBy_5 rfl rfl ?_
  refine aw_iload_n X 2 dX12_actBy_6 rfl rfl ?_
  obtain ⟨q1, e2, hf⟩ := z_bd hf
  refine aw_callV X [z_i v2] [] [z_i q1] cX12_350 s_758 ciX12 (C_X12_isCluster l D cA sa ad bs v2 c_v2 (u2 σ 758 0 0) q1 e2) rfl ⟨(Nat.le_of_ble_eq_true rfl), (Nat.le_of_ble_eq_true rfl), (Nat.le_of_ble_eq_true rfl), (Nat.le_of_ble_eq_true rfl)⟩ rfl (Nat.le_of_ble_eq_true rfl) rfl dX12_actBy_7 (fun p3 => ?_)
  refine aw_if_eq X (tgt := 30) (z_zI p3) dX12_actBy_10 (by decide) (fun h4 => ?_) (fun h4 => ?_)
  · rw [if_pos h4] at hf
    refine aw_iconst X dX12_actBy_30 ?_
    exact A_X12_actBy_31 X hr v1 c_v1 v2 c_v2 v3 c_v3 v4 c_v4 0 (z_lit (x := 0) (by decide)) (u2 σ 758 0 0) hf
  · rw [if_neg h4] at hf
    refine aw_aload_n X 0 dX12_actBy_13 rfl rfl ?_
    refine aw_iconst X dX12_actBy_14 ?_
    obtain ⟨q5, e6, hf⟩ := z_bd hf
    refine aw_callV X [z_i 2] [] [z_i q5.1] cX12_255 s_758 ciX12 (C_X12_fault l D cA sa ad bs 2 (z_lit (x := 2) (by decide)) (u2 σ 758 0 0) q5 e6) rfl ⟨(Nat.le_of_ble_eq_true rfl), (Nat.le_of_ble_eq_true rfl), (Nat.le_of_ble_eq_true rfl), (Nat.le_of_ble_eq_true rfl)⟩ rfl (Nat.le_of_ble_eq_true rfl) rfl dX12_actBy_15 (fun p7 => ?_)
    refine aw_iconst X dX12_actBy_18 ?_
    refine aw_icmp_ne X (tgt := 26) p7 (z_lit (x := (-1)) (by decide)) dX12_actBy_19 (by decide) (fun h8 => ?_) (fun h8 => ?_)
    · simp only [if_neg h8] at hf
      refine aw_iconst X dX12_actBy_26 ?_
      refine aw_goto X (tgt := 31) dX12_actBy_27 (by decide) ?_
      exact A_X12_actBy_31 X hr v1 c_v1 v2 c_v2 v3 c_v3 v4 c_v4 1 (z_lit (x := 1) (by decide)) q5.2 hf
    · simp only [if_pos h8] at hf
      refine aw_iconst X dX12_actBy_22 ?_
      refine aw_goto X (tgt := 31) dX12_actBy_23 (by decide) ?_
      exact A_X12_actBy_31 X hr v1 c_v1 v2 c_v2 v3 c_v3 v4 c_v4 (-1) (z_lit (x := (-1)) (by decide)) q5.2 hf
-- SpeedDeskModel.ask(III)I
section S_X12_ask
variable {p : Program} {l : Launch} {e : Env} {s : State} {m : MethodId} {args : Array Value} {below : List Frame} {meth : Method} {c : Code} {D : va_G} {cA : Nat → ClassId} {sa ad : Nat → Nat} {bs : Nat} {q : (Int × (Nat → Nat → Int))}

end S_X12_ask
set_option maxHeartbeats 4000000 in
set_option maxRecDepth 100000 in
theorem C_X12_ask (l : Launch) (D : va_G) (cA : Nat → ClassId) (sa ad : Nat → Nat) (bs : Nat) (v1 : Int) (c_v1 : Z_I v1) (v2 : Int) (c_v2 : Z_I v2) (v3 : Int) (c_v3 : Z_I v3) (σ : Nat → Nat → Int) (q : (Int × (Nat → Nat → Int))) (hf : f_X12_ask v1 v2 v3 σ = some q) : AM l D cA sa ad bs 788 SHp yX12_ask cX12_ask 4 (some .int) 13 [.ref (ad 758), z_i v1, z_i v2, z_i v3] σ (some (z_i q.1)) (Z_I q.1) q.2 := by
  refine am_of (by decide +kernel) (Nat.le_of_ble_eq_true rfl) (fun p e s m args below meth c X hr => ?_)
  refine aw_lv (lv' := [(0, .ref (ad 758)), (1, z_i v1), (2, z_i v2), (3, z_i v3)]) rfl ?_
  unfold f_X12_ask at hf
  refine aw_aload_n X 0 dX12_ask_0 rfl rfl ?_
  refine aw_iconst X dX12_ask_1 ?_
  refine aw_iload_n X 1 dX12_ask_2 rfl rfl ?_
  refine aw_iload_n X 2 dX12_ask_3 rfl rfl ?_
  refine aw_iload_n X 3 dX12_ask_4 rfl rfl ?_
  obtain ⟨q1, e2, hf⟩ := z_bd hf
  refine aw_callV X [z_i 2, z_i v1, z_i v2, z_i v3] [] [z_i q1.1] cX12_411 s_758 ciX12 (C_X12_actBy l D cA sa ad bs 2 (z_lit (x := 2) (by decide)) v1 c_v1 v2 c_v2 v3 c_v3 σ q1 e2) rfl ⟨(Nat.le_of_ble_eq_true rfl), (Nat.le_of_ble_eq_true rfl), (Nat.le_of_ble_eq_true rfl), (Nat.le_of_ble_eq_true rfl)⟩ rfl (Nat.le_of_ble_eq_true rfl) rfl dX12_ask_5 (fun p3 => ?_)
  obtain rfl := Option.some.inj hf
  exact aw_iret X p3 hr rfl dX12_ask_8
-- SpeedDeskModel.drop(I)I
section S_X12_drop
variable {p : Program} {l : Launch} {e : Env} {s : State} {m : MethodId} {args : Array Value} {below : List Frame} {meth : Method} {c : Code} {D : va_G} {cA : Nat → ClassId} {sa ad : Nat → Nat} {bs : Nat} {q : (Int × (Nat → Nat → Int))}

end S_X12_drop
set_option maxHeartbeats 4000000 in
set_option maxRecDepth 100000 in
theorem C_X12_drop (l : Launch) (D : va_G) (cA : Nat → ClassId) (sa ad : Nat → Nat) (bs : Nat) (v1 : Int) (c_v1 : Z_I v1) (σ : Nat → Nat → Int) (q : (Int × (Nat → Nat → Int))) (hf : f_X12_drop v1 σ = some q) : AM l D cA sa ad bs 788 SHp yX12_drop cX12_drop 2 (some .int) 13 [.ref (ad 758), z_i v1] σ (some (z_i q.1)) (Z_I q.1) q.2 := by
  refine am_of (by decide +kernel) (Nat.le_of_ble_eq_true rfl) (fun p e s m args below meth c X hr => ?_)
  refine aw_lv (lv' := [(0, .ref (ad 758)), (1, z_i v1)]) rfl ?_
  unfold f_X12_drop at hf
  refine aw_aload_n X 0 dX12_drop_0 rfl rfl ?_
  refine aw_iconst X dX12_drop_1 ?_
  refine aw_iload_n X 1 dX12_drop_2 rfl rfl ?_
  refine aw_iconst X dX12_drop_3 ?_
  refine aw_iconst X dX12_drop_4 ?_
  obtain ⟨q1, e2, hf⟩ := z_bd hf
  refine aw_callV X [z_i 3, z_i v1, z_i 0, z_i 0] [] [z_i q1.1] cX12_411 s_758 ciX12 (C_X12_actBy l D cA sa ad bs 3 (z_lit (x := 3) (by decide)) v1 c_v1 0 (z_lit (x := 0) (by decide)) 0 (z_lit (x := 0) (by decide)) σ q1 e2) rfl ⟨(Nat.le_of_ble_eq_true rfl), (Nat.le_of_ble_eq_true rfl), (Nat.le_of_ble_eq_true rfl), (Nat.le_of_ble_eq_true rfl)⟩ rfl (Nat.le_of_ble_eq_true rfl) rfl dX12_drop_5 (fun p3 => ?_)
  obtain rfl := Option.some.inj hf
  exact aw_iret X p3 hr rfl dX12_drop_8
-- SpeedDeskModel.stop(I)I
section S_X12_stop
variable {p : Program} {l : Launch} {e : Env} {s : State} {m : MethodId} {args : Array Value} {below : List Frame} {meth : Method} {c : Code} {D : va_G} {cA : Nat → ClassId} {sa ad : Nat → Nat} {bs : Nat} {q : (Int × (Nat → Nat → Int))}

end S_X12_stop
set_option maxHeartbeats 4000000 in
set_option maxRecDepth 100000 in
theorem C_X12_stop (l : Launch) (D : va_G) (cA : Nat → ClassId) (sa ad : Nat → Nat) (bs : Nat) (v1 : Int) (c_v1 : Z_I v1) (σ : Nat → Nat → Int) (q : (Int × (Nat → Nat → Int))) (hf : f_X12_stop v1 σ = some q) : AM l D cA sa ad bs 788 SHp yX12_stop cX12_stop 2 (some .int) 10 [.ref (ad 758), z_i v1] σ (some (z_i q.1)) (Z_I q.1) q.2 := by
  refine am_of (by decide +kernel) (Nat.le_of_ble_eq_true rfl) (fun p e s m args below meth c X hr => ?_)
  refine aw_lv (lv' := [(0, .ref (ad 758)), (1, z_i v1)]) rfl ?_
  unfold f_X12_stop at hf
  refine aw_aload_n X 0 dX12_stop_0 rfl rfl ?_
  refine aw_iconst X dX12_stop_1 ?_
  refine aw_iload_n X 1 dX12_stop_2 rfl rfl ?_
  refine aw_iconst X dX12_stop_3 ?_
  refine aw_iconst X dX12_stop_4 ?_
  obtain ⟨q1, e2, hf⟩ := z_bd hf
  refine aw_callV X [z_i 4, z_i v1, z_i 0, z_i 0] [] [z_i q1.1] cX12_408 s_758 ciX12 (C_X12_act l D cA sa ad bs 4 (z_lit (x := 4) (by decide)) v1 c_v1 0 (z_lit (x := 0) (by decide)) 0 (z_lit (x := 0) (by decide)) σ q1 e2) rfl ⟨(Nat.le_of_ble_eq_true rfl), (Nat.le_of_ble_eq_true rfl), (Nat.le_of_ble_eq_true rfl), (Nat.le_of_ble_eq_true rfl)⟩ rfl (Nat.le_of_ble_eq_true rfl) rfl dX12_stop_5 (fun p3 => ?_)
  obtain rfl := Option.some.inj hf
  exact aw_iret X p3 hr rfl dX12_stop_8
-- SpeedDeskModel.start(I)I
section S_X12_start
variable {p : Program} {l : Launch} {e : Env} {s : State} {m : MethodId} {args : Array Value} {below : List Frame} {meth : Method} {c : Code} {D : va_G} {cA : Nat → ClassId} {sa ad : Nat → Nat} {bs : Nat} {q : (Int × (Nat → Nat → Int))}

end S_X12_start
set_option maxHeartbeats 4000000 in
set_option maxRecDepth 100000 in
theorem C_X12_start (l : Launch) (D : va_G) (cA : Nat → ClassId) (sa ad : Nat → Nat) (bs : Nat) (v1 : Int) (c_v1 : Z_I v1) (σ : Nat → Nat → Int) (q : (Int × (Nat → Nat → Int))) (hf : f_X12_start v1 σ = some q) : AM l D cA sa ad bs 788 SHp yX12_start cX12_start 2 (some .int) 10 [.ref (ad 758), z_i v1] σ (some (z_i q.1)) (Z_I q.1) q.2 := by
  refine am_of (by decide +kernel) (Nat.le_of_ble_eq_true rfl) (fun p e s m args below meth c X hr => ?_)
  refine aw_lv (lv' := [(0, .ref (ad 758)), (1, z_i v1)]) rfl ?_
  unfold f_X12_start at hf
  refine aw_aload_n X 0 dX12_start_0 rfl rfl ?_
  refine aw_iconst X dX12_start_1 ?_
  refine aw_iload_n X 1 dX12_start_2 rfl rfl ?_
  refine aw_iconst X dX12_start_3 ?_
  refine aw_iconst X dX12_start_4 ?_
  obtain ⟨q1, e2, hf⟩ := z_bd hf
  refine aw_callV X [z_i 5, z_i v1, z_i 0, z_i 0] [] [z_i q1.1] cX12_408 s_758 ciX12 (C_X12_act l D cA sa ad bs 5 (z_lit (x := 5) (by decide)) v1 c_v1 0 (z_lit (x := 0) (by decide)) 0 (z_lit (x := 0) (by decide)) σ q1 e2) rfl ⟨(Nat.le_of_ble_eq_true rfl), (Nat.le_of_ble_eq_true rfl), (Nat.le_of_ble_eq_true rfl), (Nat.le_of_ble_eq_true rfl)⟩ rfl (Nat.le_of_ble_eq_true rfl) rfl dX12_start_5 (fun p3 => ?_)
  obtain rfl := Option.some.inj hf
  exact aw_iret X p3 hr rfl dX12_start_8
-- SpeedDeskModel.settle()I
section S_X12_settle
variable {p : Program} {l : Launch} {e : Env} {s : State} {m : MethodId} {args : Array Value} {below : List Frame} {meth : Method} {c : Code} {D : va_G} {cA : Nat → ClassId} {sa ad : Nat → Nat} {bs : Nat} {q : (Int × (Nat → Nat → Int))}

end S_X12_settle
set_option maxHeartbeats 4000000 in
set_option maxRecDepth 100000 in
theorem C_X12_settle (l : Launch) (D : va_G) (cA : Nat → ClassId) (sa ad : Nat → Nat) (bs : Nat)  (σ : Nat → Nat → Int) (q : (Int × (Nat → Nat → Int))) (hf : f_X12_settle σ = some q) : AM l D cA sa ad bs 788 SHp yX12_settle cX12_settle 1 (some .int) 10 [.ref (ad 758)] σ (some (z_i q.1)) (Z_I q.1) q.2 := by
  refine am_of (by decide +kernel) (Nat.le_of_ble_eq_true rfl) (fun p e s m args below meth c X hr => ?_)
  refine aw_lv (lv' := [(0, .ref (ad 758))]) rfl ?_
  unfold f_X12_settle at hf
  refine aw_aload_n X 0 dX12_settle_0 rfl rfl ?_
  refine aw_bipush X dX12_settle_1 (by decide) ?_
  refine aw_iconst X dX12_settle_3 ?_
  refine aw_iconst X dX12_settle_4 ?_
  refine aw_iconst X dX12_settle_5 ?_
  obtain ⟨q1, e2, hf⟩ := z_bd hf
  refine aw_callV X [z_i 6, z_i 0, z_i 0, z_i 0] [] [z_i q1.1] cX12_408 s_758 ciX12 (C_X12_act l D cA sa ad bs 6 (z_lit (x := 6) (by decide)) 0 (z_lit (x := 0) (by decide)) 0 (z_lit (x := 0) (by decide)) 0 (z_lit (x := 0) (by decide)) σ q1 e2) rfl ⟨(Nat.le_of_ble_eq_true rfl), (Nat.le_of_ble_eq_true rfl), (Nat.le_of_ble_eq_true rfl), (Nat.le_of_ble_eq_true rfl)⟩ rfl (Nat.le_of_ble_eq_true rfl) rfl dX12_settle_6 (fun p3 => ?_)
  obtain rfl := Option.some.inj hf
  exact aw_iret X p3 hr rfl dX12_settle_9
-- SpeedDeskModel.draw(I)I
section S_X12_draw
variable {p : Program} {l : Launch} {e : Env} {s : State} {m : MethodId} {args : Array Value} {below : List Frame} {meth : Method} {c : Code} {D : va_G} {cA : Nat → ClassId} {sa ad : Nat → Nat} {bs : Nat} {q : (Int × (Nat → Nat → Int))}

end S_X12_draw
set_option maxHeartbeats 4000000 in
set_option maxRecDepth 100000 in
theorem C_X12_draw (l : Launch) (D : va_G) (cA : Nat → ClassId) (sa ad : Nat → Nat) (bs : Nat) (v1 : Int) (c_v1 : Z_I v1) (σ : Nat → Nat → Int) (q : (Int × (Nat → Nat → Int))) (hf : f_X12_draw v1 σ = some q) : AM l D cA sa ad bs 788 SHp yX12_draw cX12_draw 2 (some .int) 0 [.ref (ad 758), z_i v1] σ (some (z_i q.1)) (Z_I q.1) q.2 := by
  refine am_of (by decide +kernel) (Nat.le_of_ble_eq_true rfl) (fun p e s m args below meth c X hr => ?_)
  refine aw_lv (lv' := [(0, .ref (ad 758)), (1, z_i v1)]) rfl ?_
  unfold f_X12_draw at hf
  refine aw_aload_n X 0 dX12_draw_0 rfl rfl ?_
  refine aw_aload_n X 0 dX12_draw_1 rfl rfl ?_
  refine aw_getL X s_758 fX12_414 rfl dX12_draw_2 (fun c1 => ?_)
  refine aw_ldc2 X (x := 6364136223846793005) dX12_draw_5 kX12_417 (by decide) ?_
  refine aw_lmul X dX12_draw_8 ?_
  refine aw_ldc2 X (x := 1442695040888963407) dX12_draw_9 kX12_419 (by decide) ?_
  refine aw_ladd X dX12_draw_12 ?_
  refine aw_putL X s_758 pX12_414 rfl (z_l_in _) dX12_draw_13 ?_
  refine aw_aload_n X 0 dX12_draw_16 rfl rfl ?_
  refine aw_getL X s_758 fX12_414 rfl dX12_draw_17 (fun c2 => ?_)
  refine aw_bipush X dX12_draw_20 (by decide) ?_
  refine aw_lushr X dX12_draw_22 ?_
  refine aw_iload_n X 1 dX12_draw_23 rfl rfl ?_
  refine aw_i2l X c_v1 dX12_draw_24 ?_
  obtain ⟨g3, hf⟩ := z_gd hf
  refine aw_lrem X (z_ushrL_in _ _) (z_IL c_v1) g3 dX12_draw_25 ?_
  refine aw_l2i X dX12_draw_26 ?_
  obtain rfl := Option.some.inj hf
  exact aw_iret X (z_w_in _) hr rfl dX12_draw_27
-- SpeedDeskModel.happens()V
section S_X12_happens
variable {p : Program} {l : Launch} {e : Env} {s : State} {m : MethodId} {args : Array Value} {below : List Frame} {meth : Method} {c : Code} {D : va_G} {cA : Nat → ClassId} {sa ad : Nat → Nat} {bs : Nat} {q : (Nat → Nat → Int)}
set_option maxHeartbeats 4000000 in
set_option maxRecDepth 100000 in
theorem A_X12_happens_109 (X : AX p s m args meth c D cA sa bs cX12_happens 4 RX12) (hr : meth.sig.returnType = none) (v2 : Int) (c_v2 : Z_I v2) (t0 : Int) (c_t0 : Z_I t0) (σ : Nat → Nat → Int) (hf : f_X12_happens_109 v2 t0 σ = some q) : AW p l e (ax_rm 9 0 0) s m args below meth c D cA ad bs 788 SHp 0 0 (ax_MQ below args s D cA ad bs 788 SHp 0 0 none True q) 4 109 [(2, z_i v2)] [z_i t0, .ref (ad 758)] σ := by
  unfold f_X12_happens_109 at hf
  refine aw_iload_n X 0 dX12_happens_109 rfl rfl ?_
  refine aw_iconst X dX12_happens_110 ?_
  refine aw_iconst X dX12_happens_111 ?_
  obtain ⟨q32, e33, hf⟩ := z_bd hf
  refine aw_callV X [z_i t0, z_i v2, z_i 0, z_i 0] [] [z_i q32.1] cX12_404 s_758 ciX12 (C_X12_tries l D cA sa ad bs t0 c_t0 v2 c_v2 0 (z_lit (x := 0) (by decide)) 0 (z_lit (x := 0) (by decide)) σ q32 e33) rfl ⟨(Nat.le_of_ble_eq_true rfl), (Nat.le_of_ble_eq_true rfl), (Nat.le_of_ble_eq_true rfl), (Nat.le_of_ble_eq_true rfl)⟩ rfl (Nat.le_of_ble_eq_true rfl) rfl dX12_happens_112 (fun p34 => ?_)
  refine aw_istore_n X [(3, z_i q32.1), (2, z_i v2)] dX12_happens_115 rfl (by decide) rfl ?_
  obtain rfl := Option.some.inj hf
  exact aw_vret X trivial hr rfl dX12_happens_116
end S_X12_happens
set_option maxHeartbeats 4000000 in
set_option maxRecDepth 100000 in
theorem C_X12_happens (l : Launch) (D : va_G) (cA : Nat → ClassId) (sa ad : Nat → Nat) (bs : Nat)  (σ : Nat → Nat → Int) (q : (Nat → Nat → Int)) (hf : f_X12_happens σ = some q) : AM l D cA sa ad bs 788 SHp yX12_happens cX12_happens 4 none 9 [.ref (ad 758)] σ none True q := by
  refine am_of (by decide +kernel) (Nat.le_of_ble_eq_true rfl) (fun p e s m args below meth c X hr => ?_)
  refine aw_lv (lv' := [(0, .ref (ad 758))]) rfl ?_
  unfold f_X12_happens at hf
  refine aw_aload_n X 0 dX12_happens_0 rfl rfl ?_
  refine aw_bipush X dX12_happens_1 (by decide) ?_
  obtain ⟨q1, e2, hf⟩ := z_bd hf
  refine aw_callV X [z_i 8] [] [z_i q1.1] cX12_421 s_758 ciX12 (C_X12_draw l D cA sa ad bs 8 (z_lit (x := 8) (by decide)) σ q1 e2) rfl ⟨(Nat.le_of_ble_eq_true rfl), (Nat.le_of_ble_eq_true rfl), (Nat.le_of_ble_eq_true rfl), (Nat.le_of_ble_eq_true rfl)⟩ rfl (Nat.le_of_ble_eq_true rfl) rfl dX12_happens_3 (fun p3 => ?_)
  refine aw_istore_n X [(1, z_i q1.1), (0, .ref (ad 758))] dX12_happens_6 rfl (by decide) rfl ?_
  refine aw_iload_n X 0 dX12_happens_7 rfl rfl ?_
  refine aw_iconst X dX12_happens_8 ?_
  refine aw_icmp_ge X (tgt := 30) p3 (z_lit (x := 4) (by decide)) dX12_happens_9 (by decide) (fun h4 => ?_) (fun h4 => ?_)
  · rw [if_pos h4] at hf
    refine aw_iload_n X 0 dX12_happens_30 rfl rfl ?_
    refine aw_bipush X dX12_happens_31 (by decide) ?_
    refine aw_icmp_ne X (tgt := 49) p3 (z_lit (x := 7) (by decide)) dX12_happens_33 (by decide) (fun h5 => ?_) (fun h5 => ?_)
    · rw [if_neg h5] at hf
      refine aw_aload_n X 1 dX12_happens_49 rfl rfl ?_
      refine aw_getI X s_758 fX12_237 rfl dX12_happens_50 (fun c6 => ?_)
      refine aw_if_le X (tgt := 116) c6 dX12_happens_53 (by decide) (fun h7 => ?_) (fun h7 => ?_)
      · rw [if_pos h7] at hf
        obtain rfl := Option.some.inj hf
        exact aw_vret X trivial hr rfl dX12_happens_116
      · rw [if_neg h7] at hf
        refine aw_aload_n X 1 dX12_happens_56 rfl rfl ?_
        refine aw_aload_n X 1 dX12_happens_57 rfl rfl ?_
        refine aw_getI X s_758 fX12_237 rfl dX12_happens_58 (fun c8 => ?_)
        obtain ⟨q9, e10, hf⟩ := z_bd hf
        refine aw_callV X [z_i (q1.2 758 23)] [] [z_i q9.1] cX12_421 s_758 ciX12 (C_X12_draw l D cA sa ad bs (q1.2 758 23) c8 q1.2 q9 e10) rfl ⟨(Nat.le_of_ble_eq_true rfl), (Nat.le_of_ble_eq_true rfl), (Nat.le_of_ble_eq_true rfl), (Nat.le_of_ble_eq_true rfl)⟩ rfl (Nat.le_of_ble_eq_true rfl) rfl dX12_happens_61 (fun p11 => ?_)
        refine aw_istore_n X [(2, z_i q9.1), (1, z_i q1.1), (0, .ref (ad 758))] dX12_happens_64 rfl (by decide) rfl ?_
        refine aw_iload_n X 1 dX12_happens_65 rfl rfl ?_
        refine aw_bipush X dX12_happens_66 (by decide) ?_
        refine aw_icmp_ge X (tgt := 90) p3 (z_lit (x := 6) (by decide)) dX12_happens_68 (by decide) (fun h12 => ?_) (fun h12 => ?_)
        · rw [if_pos h12] at hf
          refine aw_aload_n X 2 dX12_happens_90 rfl rfl ?_
          refine aw_aload_n X 2 dX12_happens_91 rfl rfl ?_
          refine aw_getR X s_758 fX12_63 rfl dX12_happens_92 ?_
          refine aw_bipush X dX12_happens_95 (by decide) ?_
          refine aw_iload_n X 0 dX12_happens_97 rfl rfl ?_
          refine aw_iadd X dX12_happens_98 ?_
          obtain ⟨g13, hf⟩ := z_gd hf
          refine aw_iald X (j := (z_w (37 + q9.1)).toNat) s_776 (z_w_in _) g13.1 g13.2 rfl dX12_happens_99 (fun c14 => ?_)
          refine aw_iconst X dX12_happens_100 ?_
          refine aw_icmp_ne X (tgt := 108) c14 (z_lit (x := 1) (by decide)) dX12_happens_101 (by decide) (fun h15 => ?_) (fun h15 => ?_)
          · simp only [if_neg h15] at hf
            refine aw_iconst X dX12_happens_108 ?_
            refine aw_sub [0] rfl ?_
            exact A_X12_happens_109 X hr q9.1 p11 4 (z_lit (x := 4) (by decide)) q9.2 hf
          · simp only [if_pos h15] at hf
            refine aw_iconst X dX12_happens_104 ?_
            refine aw_goto X (tgt := 109) dX12_happens_105 (by decide) ?_
            refine aw_sub [0] rfl ?_
            exact A_X12_happens_109 X hr q9.1 p11 5 (z_lit (x := 5) (by decide)) q9.2 hf
        · rw [if_neg h12] at hf
          refine aw_aload_n X 2 dX12_happens_71 rfl rfl ?_
          refine aw_iconst X dX12_happens_72 ?_
          refine aw_iload_n X 0 dX12_happens_73 rfl rfl ?_
          refine aw_aload_n X 2 dX12_happens_74 rfl rfl ?_
          refine aw_aload_n X 2 dX12_happens_75 rfl rfl ?_
          refine aw_getI X s_758 fX12_240 rfl dX12_happens_76 (fun c16 => ?_)
          obtain ⟨q17, e18, hf⟩ := z_bd hf
          refine aw_callV X [z_i (q9.2 758 25)] [z_i q9.1, z_i 1, .ref (ad 758)] [z_i q17.1, z_i q9.1, z_i 1, .ref (ad 758)] cX12_421 s_758 ciX12 (C_X12_draw l D cA sa ad bs (q9.2 758 25) c16 q9.2 q17 e18) rfl ⟨(Nat.le_of_ble_eq_true rfl), (Nat.le_of_ble_eq_true rfl), (Nat.le_of_ble_eq_true rfl), (Nat.le_of_ble_eq_true rfl)⟩ rfl (Nat.le_of_ble_eq_true rfl) rfl dX12_happens_79 (fun p19 => ?_)
          refine aw_iconst X dX12_happens_82 ?_
          obtain ⟨q20, e21, hf⟩ := z_bd hf
          refine aw_callV X [z_i 1, z_i q9.1, z_i q17.1, z_i 0] [] [z_i q20.1] cX12_404 s_758 ciX12 (C_X12_tries l D cA sa ad bs 1 (z_lit (x := 1) (by decide)) q9.1 p11 q17.1 p19 0 (z_lit (x := 0) (by decide)) q17.2 q20 e21) rfl ⟨(Nat.le_of_ble_eq_true rfl), (Nat.le_of_ble_eq_true rfl), (Nat.le_of_ble_eq_true rfl), (Nat.le_of_ble_eq_true rfl)⟩ rfl (Nat.le_of_ble_eq_true rfl) rfl dX12_happens_83 (fun p22 => ?_)
          refine aw_istore_n X [(3, z_i q20.1), (2, z_i q9.1), (1, z_i q1.1), (0, .ref (ad 758))] dX12_happens_86 rfl (by decide) rfl ?_
          refine aw_goto X (tgt := 116) dX12_happens_87 (by decide) ?_
          obtain rfl := Option.some.inj hf
          exact aw_vret X trivial hr rfl dX12_happens_116
    · rw [if_pos h5] at hf
      refine aw_aload_n X 1 dX12_happens_36 rfl rfl ?_
      refine aw_bipush X dX12_happens_37 (by decide) ?_
      refine aw_iconst X dX12_happens_39 ?_
      refine aw_iconst X dX12_happens_40 ?_
      refine aw_iconst X dX12_happens_41 ?_
      obtain ⟨q23, e24, hf⟩ := z_bd hf
      refine aw_callV X [z_i 6, z_i 0, z_i 0, z_i 0] [] [z_i q23.1] cX12_404 s_758 ciX12 (C_X12_tries l D cA sa ad bs 6 (z_lit (x := 6) (by decide)) 0 (z_lit (x := 0) (by decide)) 0 (z_lit (x := 0) (by decide)) 0 (z_lit (x := 0) (by decide)) q1.2 q23 e24) rfl ⟨(Nat.le_of_ble_eq_true rfl), (Nat.le_of_ble_eq_true rfl), (Nat.le_of_ble_eq_true rfl), (Nat.le_of_ble_eq_true rfl)⟩ rfl (Nat.le_of_ble_eq_true rfl) rfl dX12_happens_42 (fun p25 => ?_)
      refine aw_istore_n X [(2, z_i q23.1), (1, z_i q1.1), (0, .ref (ad 758))] dX12_happens_45 rfl (by decide) rfl ?_
      refine aw_goto X (tgt := 116) dX12_happens_46 (by decide) ?_
      obtain rfl := Option.some.inj hf
      exact aw_vret X trivial hr rfl dX12_happens_116
  · rw [if_neg h4] at hf
    refine aw_aload_n X 1 dX12_happens_12 rfl rfl ?_
    refine aw_iconst X dX12_happens_13 ?_
    refine aw_aload_n X 1 dX12_happens_14 rfl rfl ?_
    refine aw_iconst X dX12_happens_15 ?_
    obtain ⟨q26, e27, hf⟩ := z_bd hf
    refine aw_callV X [z_i 5] [z_i 0, .ref (ad 758)] [z_i q26.1, z_i 0, .ref (ad 758)] cX12_421 s_758 ciX12 (C_X12_draw l D cA sa ad bs 5 (z_lit (x := 5) (by decide)) q1.2 q26 e27) rfl ⟨(Nat.le_of_ble_eq_true rfl), (Nat.le_of_ble_eq_true rfl), (Nat.le_of_ble_eq_true rfl), (Nat.le_of_ble_eq_true rfl)⟩ rfl (Nat.le_of_ble_eq_true rfl) rfl dX12_happens_16 (fun p28 => ?_)
    refine aw_iconst X dX12_happens_19 ?_
    refine aw_iadd X dX12_happens_20 ?_
    refine aw_iconst X dX12_happens_21 ?_
    refine aw_iconst X dX12_happens_22 ?_
    obtain ⟨q29, e30, hf⟩ := z_bd hf
    refine aw_callV X [z_i 0, z_i (z_w (q26.1 + 1)), z_i 0, z_i 0] [] [z_i q29.1] cX12_404 s_758 ciX12 (C_X12_tries l D cA sa ad bs 0 (z_lit (x := 0) (by decide)) (z_w (q26.1 + 1)) (z_w_in _) 0 (z_lit (x := 0) (by decide)) 0 (z_lit (x := 0) (by decide)) q26.2 q29 e30) rfl ⟨(Nat.le_of_ble_eq_true rfl), (Nat.le_of_ble_eq_true rfl), (Nat.le_of_ble_eq_true rfl), (Nat.le_of_ble_eq_true rfl)⟩ rfl (Nat.le_of_ble_eq_true rfl) rfl dX12_happens_23 (fun p31 => ?_)
    refine aw_istore_n X [(2, z_i q29.1), (1, z_i q1.1), (0, .ref (ad 758))] dX12_happens_26 rfl (by decide) rfl ?_
    refine aw_goto X (tgt := 116) dX12_happens_27 (by decide) ?_
    obtain rfl := Option.some.inj hf
    exact aw_vret X trivial hr rfl dX12_happens_116
