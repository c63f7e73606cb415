-- SpeedDeskModel.run(II)I
section S_X12_run
variable {p : Program} {l : Launch} {e : Env} {s : State} {m : MethodId} {args : Array Value} {below : List Frame} {meth : Method} {c : Code} {D : va_G} {cA : Nat → ClassId} {sa ad : Nat → Nat} {bs : Nat} {q : (Int × (Nat → Nat → Int))}
set_option maxHeartbeats 4000000 in
set_option maxRecDepth 100000 in
theorem A_X12_run_201 (X : AX p s m args meth c D cA sa bs cX12_run 6 RX12) (hr : meth.sig.returnType = (some .int)) (v1 : Int) (c_v1 : Z_I v1) (v2 : Int) (c_v2 : Z_I v2) (v3 : Int) (c_v3 : Z_I v3) (σ : Nat → Nat → Int) (hf : f_X12_run_201 v1 v2 v3 σ = some q) : AW p l e (ax_rm 8 0 0) s m args below meth c D cA ad bs 788 SHp 0 0 (ax_MQ below args s D cA ad bs 788 SHp 0 0 (some (z_i q.1)) (Z_I q.1) q.2) 6 201 [(0, .ref (ad 758)), (1, z_i v1), (2, z_i v2), (3, z_i v3)] [] σ := by
  unfold f_X12_run_201 at hf
  refine aw_iload_n X 2 dX12_run_201 rfl rfl ?_
  refine aw_iconst X dX12_run_202 ?_
  refine aw_icmp_ne X (tgt := 216) c_v2 (z_lit (x := 1) (by decide)) dX12_run_203 (by decide) (fun h32 => ?_) (fun h32 => ?_)
  · rw [if_neg h32] at hf
    refine aw_iload_n X 3 dX12_run_216 rfl rfl ?_
    refine aw_aload_n X 0 dX12_run_217 rfl rfl ?_
    refine aw_getR X s_758 fX12_57 rfl dX12_run_218 ?_
    refine aw_iload_n X 1 dX12_run_221 rfl rfl ?_
    obtain ⟨g33, hf⟩ := z_gd hf
    refine aw_iald X (j := v1.toNat) s_774 c_v1 g33.1 g33.2 rfl dX12_run_222 (fun c34 => ?_)
    refine aw_icmp_ne X (tgt := 230) c_v3 c34 dX12_run_223 (by decide) (fun h35 => ?_) (fun h35 => ?_)
    · rw [if_neg h35] at hf
      refine aw_iload_n X 3 dX12_run_230 rfl rfl ?_
      obtain rfl := Option.some.inj hf
      exact aw_iret X c_v3 hr rfl dX12_run_231
    · rw [if_pos h35] at hf
      refine aw_iconst X dX12_run_226 ?_
      refine aw_goto X (tgt := 231) dX12_run_227 (by decide) ?_
      obtain rfl := Option.some.inj hf
      exact aw_iret X (z_lit (x := (-1)) (by decide)) hr rfl dX12_run_231
  · rw [if_pos h32] at hf
    refine aw_aload_n X 0 dX12_run_206 rfl rfl ?_
    refine aw_getR X s_758 fX12_66 rfl dX12_run_207 ?_
    refine aw_bipush X dX12_run_210 (by decide) ?_
    refine aw_iald X (j := 43) s_777 (z_lit (x := 43) (by decide)) (by decide) (by decide) rfl dX12_run_212 (fun c36 => ?_)
    refine aw_goto X (tgt := 231) dX12_run_213 (by decide) ?_
    obtain rfl := Option.some.inj hf
    exact aw_iret X c36 hr rfl dX12_run_231
set_option maxHeartbeats 4000000 in
set_option maxRecDepth 100000 in
theorem A_X12_run_143 (X : AX p s m args meth c D cA sa bs cX12_run 6 RX12) (hr : meth.sig.returnType = (some .int)) (K52 : Int → Int → Int → Int → (Nat → Nat → Int) → Option (Int × (Nat → Nat → Int))) (hK52 : ∀ (v1 : Int) (c_v1 : Z_I v1) (v2 : Int) (c_v2 : Z_I v2) (v3 : Int) (c_v3 : Z_I v3) (v4 : Int) (c_v4 : Z_I v4) (σ : Nat → Nat → Int), K52 v1 v2 v3 v4 σ = some q → AW p l e (ax_rm 8 0 0) s m args below meth c D cA ad bs 788 SHp 0 0 (ax_MQ below args s D cA ad bs 788 SHp 0 0 (some (z_i q.1)) (Z_I q.1) q.2) 6 52 [(0, .ref (ad 758)), (1, z_i v1), (2, z_i v2), (3, z_i v3), (4, z_i v4)] [] σ) (v1 : Int) (c_v1 : Z_I v1) (v2 : Int) (c_v2 : Z_I v2) (v3 : Int) (c_v3 : Z_I v3) (v5 : Int) (c_v5 : Z_I v5) (t0 : Int) (c_t0 : Z_I t0) (σ : Nat → Nat → Int) (hf : f_X12_run_143 K52 v1 v2 v3 v5 t0 σ = some q) : AW p l e (ax_rm 8 0 0) s m args below meth c D cA ad bs 788 SHp 0 0 (ax_MQ below args s D cA ad bs 788 SHp 0 0 (some (z_i q.1)) (Z_I q.1) q.2) 6 143 [(0, .ref (ad 758)), (1, z_i v1), (2, z_i v2), (3, z_i v3), (5, z_i v5)] [z_i t0] σ := by
  unfold f_X12_run_143 at hf
  refine aw_istore X [(4, z_i t0), (0, .ref (ad 758)), (1, z_i v1), (2, z_i v2), (3, z_i v3), (5, z_i v5)] dX12_run_143 (by decide) rfl ?_
  refine aw_iload X 0 dX12_run_145 rfl ?_
  refine aw_if_ne X (tgt := 153) c_t0 dX12_run_147 (by decide) (fun h37 => ?_) (fun h37 => ?_)
  · rw [if_neg h37] at hf
    refine aw_aload_n X 1 dX12_run_153 rfl rfl ?_
    refine aw_aload_n X 1 dX12_run_154 rfl rfl ?_
    refine aw_getR X s_758 fX12_66 rfl dX12_run_155 ?_
    refine aw_aload_n X 1 dX12_run_158 rfl rfl ?_
    refine aw_getR X s_758 fX12_54 rfl dX12_run_159 ?_
    refine aw_iload X 5 dX12_run_162 rfl ?_
    obtain ⟨g38, hf⟩ := z_gd hf
    refine aw_iald X (j := v5.toNat) s_773 c_v5 g38.1 g38.2 rfl dX12_run_164 (fun c39 => ?_)
    refine aw_aload_n X 1 dX12_run_165 rfl rfl ?_
    refine aw_getR X s_758 fX12_54 rfl dX12_run_166 ?_
    refine aw_iload X 5 dX12_run_169 rfl ?_
    refine aw_iconst X dX12_run_171 ?_
    refine aw_iadd X dX12_run_172 ?_
    obtain ⟨g40, hf⟩ := z_gd hf
    refine aw_iald X (j := (z_w (v5 + 1)).toNat) s_773 (z_w_in _) g40.1 g40.2 rfl dX12_run_173 (fun c41 => ?_)
    refine aw_aload_n X 1 dX12_run_174 rfl rfl ?_
    refine aw_getR X s_758 fX12_54 rfl dX12_run_175 ?_
    refine aw_iload X 5 dX12_run_178 rfl ?_
    refine aw_iconst X dX12_run_180 ?_
    refine aw_iadd X dX12_run_181 ?_
    obtain ⟨g42, hf⟩ := z_gd hf
    refine aw_iald X (j := (z_w (v5 + 2)).toNat) s_773 (z_w_in _) g42.1 g42.2 rfl dX12_run_182 (fun c43 => ?_)
    refine aw_aload_n X 1 dX12_run_183 rfl rfl ?_
    refine aw_getR X s_758 fX12_54 rfl dX12_run_184 ?_
    refine aw_iload X 5 dX12_run_187 rfl ?_
    refine aw_iconst X dX12_run_189 ?_
    refine aw_iadd X dX12_run_190 ?_
    obtain ⟨g44, hf⟩ := z_gd hf
    refine aw_iald X (j := (z_w (v5 + 3)).toNat) s_773 (z_w_in _) g44.1 g44.2 rfl dX12_run_191 (fun c45 => ?_)
    obtain ⟨q46, e47, hf⟩ := z_bd hf
    refine aw_callV X [.ref (ad 777), z_i (σ 773 v5.toNat), z_i (σ 773 (z_w (v5 + 1)).toNat), z_i (σ 773 (z_w (v5 + 2)).toNat), z_i (σ 773 (z_w (v5 + 3)).toNat)] [] [] cX12_396 s_758 ciX12 (C_X12_does l D cA sa ad bs 777 s_777 (σ 773 v5.toNat) c39 (σ 773 (z_w (v5 + 1)).toNat) c41 (σ 773 (z_w (v5 + 2)).toNat) c43 (σ 773 (z_w (v5 + 3)).toNat) c45 σ q46 e47) rfl ⟨(Nat.le_of_ble_eq_true rfl), (Nat.le_of_ble_eq_true rfl), (Nat.le_of_ble_eq_true rfl), (Nat.le_of_ble_eq_true rfl)⟩ rfl (Nat.le_of_ble_eq_true rfl) rfl dX12_run_192 (fun p48 => ?_)
    refine aw_iinc X 4 [(3, z_i (z_w (v3 + 1))), (4, z_i t0), (0, .ref (ad 758)), (1, z_i v1), (2, z_i v2), (5, z_i v5)] dX12_run_195 rfl (by decide) rfl ?_
    refine aw_goto X (tgt := 52) dX12_run_198 (by decide) ?_
    refine aw_sub [2, 3, 4, 0, 1] rfl ?_
    exact hK52 v1 c_v1 v2 c_v2 (z_w (v3 + 1)) (z_w_in _) t0 c_t0 q46 hf
  · rw [if_pos h37] at hf
    refine aw_goto X (tgt := 52) dX12_run_150 (by decide) ?_
    refine aw_sub [1, 2, 3, 4, 0] rfl ?_
    exact hK52 v1 c_v1 v2 c_v2 v3 c_v3 t0 c_t0 σ hf
set_option maxHeartbeats 4000000 in
set_option maxRecDepth 100000 in
theorem A_X12_run_52 (X : AX p s m args meth c D cA sa bs cX12_run 6 RX12) (hr : meth.sig.returnType = (some .int)) : ∀ (k : Nat) (v1 : Int) (c_v1 : Z_I v1) (v2 : Int) (c_v2 : Z_I v2) (v3 : Int) (c_v3 : Z_I v3) (v4 : Int) (c_v4 : Z_I v4) (σ : Nat → Nat → Int), f_X12_run_52 k v1 v2 v3 v4 σ = some q → AW p l e (ax_rm 8 0 0) s m args below meth c D cA ad bs 788 SHp 0 0 (ax_MQ below args s D cA ad bs 788 SHp 0 0 (some (z_i q.1)) (Z_I q.1) q.2) 6 52 [(0, .ref (ad 758)), (1, z_i v1), (2, z_i v2), (3, z_i v3), (4, z_i v4)] [] σ := by
  intro k
  induction k with
  | zero =>
    intro v1 c_v1 v2 c_v2 v3 c_v3 v4 c_v4 σ hf
    unfold f_X12_run_52 at hf
    cases hf
  | succ k ih =>
    intro v1 c_v1 v2 c_v2 v3 c_v3 v4 c_v4 σ hf
    unfold f_X12_run_52 at hf
    refine aw_iload X 4 dX12_run_52 rfl ?_
    refine aw_if_eq X (tgt := 201) c_v4 dX12_run_54 (by decide) (fun h14 => ?_) (fun h14 => ?_)
    · rw [if_pos h14] at hf
      refine aw_sub [0, 1, 2, 3] rfl ?_
      exact A_X12_run_201 X hr v1 c_v1 v2 c_v2 v3 c_v3 σ hf
    · rw [if_neg h14] at hf
      refine aw_iload_n X 3 dX12_run_57 rfl rfl ?_
      refine aw_aload_n X 0 dX12_run_58 rfl rfl ?_
      refine aw_getR X s_758 fX12_57 rfl dX12_run_59 ?_
      refine aw_iload_n X 1 dX12_run_62 rfl rfl ?_
      obtain ⟨g15, hf⟩ := z_gd hf
      refine aw_iald X (j := v1.toNat) s_774 c_v1 g15.1 g15.2 rfl dX12_run_63 (fun c16 => ?_)
      refine aw_icmp_ge X (tgt := 201) c_v3 c16 dX12_run_64 (by decide) (fun h17 => ?_) (fun h17 => ?_)
      · rw [if_pos h17] at hf
        refine aw_sub [0, 1, 2, 3] rfl ?_
        exact A_X12_run_201 X hr v1 c_v1 v2 c_v2 v3 c_v3 σ hf
      · rw [if_neg h17] at hf
        refine aw_iconst X dX12_run_67 ?_
        refine aw_bipush X dX12_run_68 (by decide) ?_
        refine aw_iload_n X 1 dX12_run_70 rfl rfl ?_
        refine aw_imul X dX12_run_71 ?_
        refine aw_iload_n X 3 dX12_run_72 rfl rfl ?_
        refine aw_iadd X dX12_run_73 ?_
        refine aw_imul X dX12_run_74 ?_
        refine aw_istore X [(5, z_i (z_w (4 * (z_w ((z_w (12 * v1)) + v3))))), (0, .ref (ad 758)), (1, z_i v1), (2, z_i v2), (3, z_i v3), (4, z_i v4)] dX12_run_75 (by decide) rfl ?_
        refine aw_aload_n X 1 dX12_run_77 rfl rfl ?_
        refine aw_aload_n X 1 dX12_run_78 rfl rfl ?_
        refine aw_getR X s_758 fX12_60 rfl dX12_run_79 ?_
        refine aw_bipush X dX12_run_82 (by decide) ?_
        refine aw_iload_n X 2 dX12_run_84 rfl rfl ?_
        refine aw_imul X dX12_run_85 ?_
        refine aw_iload_n X 4 dX12_run_86 rfl rfl ?_
        refine aw_iadd X dX12_run_87 ?_
        obtain ⟨g18, hf⟩ := z_gd hf
        refine aw_lald X (j := (z_w ((z_w (12 * v1)) + v3)).toNat) s_775 (z_w_in _) g18.1 g18.2 rfl dX12_run_88 (fun c19 => ?_)
        refine aw_putL X s_758 pX12_353 rfl c19 dX12_run_89 ?_
        refine aw_aload_n X 1 dX12_run_92 rfl rfl ?_
        refine aw_aload_n X 1 dX12_run_93 rfl rfl ?_
        refine aw_getR X s_758 fX12_66 rfl dX12_run_94 ?_
        refine aw_aload_n X 1 dX12_run_97 rfl rfl ?_
        refine aw_getR X s_758 fX12_54 rfl dX12_run_98 ?_
        refine aw_iload X 0 dX12_run_101 rfl ?_
        obtain ⟨g20, hf⟩ := z_gd hf
        refine aw_iald X (j := (z_w (4 * (z_w ((z_w (12 * v1)) + v3)))).toNat) s_773 (z_w_in _) g20.1 g20.2 rfl dX12_run_103 (fun c21 => ?_)
        refine aw_aload_n X 1 dX12_run_104 rfl rfl ?_
        refine aw_getR X s_758 fX12_54 rfl dX12_run_105 ?_
        refine aw_iload X 0 dX12_run_108 rfl ?_
        refine aw_iconst X dX12_run_110 ?_
        refine aw_iadd X dX12_run_111 ?_
        obtain ⟨g22, hf⟩ := z_gd hf
        refine aw_iald X (j := (z_w ((z_w (4 * (z_w ((z_w (12 * v1)) + v3)))) + 1)).toNat) s_773 (z_w_in _) g22.1 g22.2 rfl dX12_run_112 (fun c23 => ?_)
        refine aw_aload_n X 1 dX12_run_113 rfl rfl ?_
        refine aw_getR X s_758 fX12_54 rfl dX12_run_114 ?_
        refine aw_iload X 0 dX12_run_117 rfl ?_
        refine aw_iconst X dX12_run_119 ?_
        refine aw_iadd X dX12_run_120 ?_
        obtain ⟨g24, hf⟩ := z_gd hf
        refine aw_iald X (j := (z_w ((z_w (4 * (z_w ((z_w (12 * v1)) + v3)))) + 2)).toNat) s_773 (z_w_in _) g24.1 g24.2 rfl dX12_run_121 (fun c25 => ?_)
        refine aw_aload_n X 1 dX12_run_122 rfl rfl ?_
        refine aw_getR X s_758 fX12_54 rfl dX12_run_123 ?_
        refine aw_iload X 0 dX12_run_126 rfl ?_
        refine aw_iconst X dX12_run_128 ?_
        refine aw_iadd X dX12_run_129 ?_
        obtain ⟨g26, hf⟩ := z_gd hf
        refine aw_iald X (j := (z_w ((z_w (4 * (z_w ((z_w (12 * v1)) + v3)))) + 3)).toNat) s_773 (z_w_in _) g26.1 g26.2 rfl dX12_run_130 (fun c27 => ?_)
        obtain ⟨q28, e29, hf⟩ := z_bd hf
        refine aw_callV X [.ref (ad 777), z_i ((u2 σ 758 41 (σ 775 (z_w ((z_w (12 * v1)) + v3)).toNat)) 773 (z_w (4 * (z_w ((z_w (12 * v1)) + v3)))).toNat), z_i ((u2 σ 758 41 (σ 775 (z_w ((z_w (12 * v1)) + v3)).toNat)) 773 (z_w ((z_w (4 * (z_w ((z_w (12 * v1)) + v3)))) + 1)).toNat), z_i ((u2 σ 758 41 (σ 775 (z_w ((z_w (12 * v1)) + v3)).toNat)) 773 (z_w ((z_w (4 * (z_w ((z_w (12 * v1)) + v3)))) + 2)).toNat), z_i ((u2 σ 758 41 (σ 775 (z_w ((z_w (12 * v1)) + v3)).toNat)) 773 (z_w ((z_w (4 * (z_w ((z_w (12 * v1)) + v3)))) + 3)).toNat)] [] [z_i q28.1] cX12_389 s_758 ciX12 (C_X12_stops l D cA sa ad bs 777 s_777 ((u2 σ 758 41 (σ 775 (z_w ((z_w (12 * v1)) + v3)).toNat)) 773 (z_w (4 * (z_w ((z_w (12 * v1)) + v3)))).toNat) c21 ((u2 σ 758 41 (σ 775 (z_w ((z_w (12 * v1)) + v3)).toNat)) 773 (z_w ((z_w (4 * (z_w ((z_w (12 * v1)) + v3)))) + 1)).toNat) c23 ((u2 σ 758 41 (σ 775 (z_w ((z_w (12 * v1)) + v3)).toNat)) 773 (z_w ((z_w (4 * (z_w ((z_w (12 * v1)) + v3)))) + 2)).toNat) c25 ((u2 σ 758 41 (σ 775 (z_w ((z_w (12 * v1)) + v3)).toNat)) 773 (z_w ((z_w (4 * (z_w ((z_w (12 * v1)) + v3)))) + 3)).toNat) c27 (u2 σ 758 41 (σ 775 (z_w ((z_w (12 * v1)) + v3)).toNat)) q28 e29) rfl ⟨(Nat.le_of_ble_eq_true rfl), (Nat.le_of_ble_eq_true rfl), (Nat.le_of_ble_eq_true rfl), (Nat.le_of_ble_eq_true rfl)⟩ rfl (Nat.le_of_ble_eq_true rfl) rfl dX12_run_131 (fun p30 => ?_)
        refine aw_iconst X dX12_run_134 ?_
        refine aw_icmp_ne X (tgt := 142) p30 (z_lit (x := (-1)) (by decide)) dX12_run_135 (by decide) (fun h31 => ?_) (fun h31 => ?_)
        · simp only [if_neg h31] at hf
          refine aw_iconst X dX12_run_142 ?_
          refine aw_sub [1, 2, 3, 4, 0] rfl ?_
          exact A_X12_run_143 X hr (f_X12_run_52 k) ih v1 c_v1 v2 c_v2 v3 c_v3 (z_w (4 * (z_w ((z_w (12 * v1)) + v3)))) (z_w_in _) 0 (z_lit (x := 0) (by decide)) q28.2 hf
        · simp only [if_pos h31] at hf
          refine aw_iconst X dX12_run_138 ?_
          refine aw_goto X (tgt := 143) dX12_run_139 (by decide) ?_
          refine aw_sub [1, 2, 3, 4, 0] rfl ?_
          exact A_X12_run_143 X hr (f_X12_run_52 k) ih v1 c_v1 v2 c_v2 v3 c_v3 (z_w (4 * (z_w ((z_w (12 * v1)) + v3)))) (z_w_in _) 1 (z_lit (x := 1) (by decide)) q28.2 hf
end S_X12_run
set_option maxHeartbeats 4000000 in
set_option maxRecDepth 100000 in
theorem C_X12_run (l : Launch) (D : va_G) (cA : Nat → ClassId) (sa ad : Nat → Nat) (bs : Nat) (v1 : Int) (c_v1 : Z_I v1) (v2 : Int) (c_v2 : Z_I v2) (σ : Nat → Nat → Int) (q : (Int × (Nat → Nat → Int))) (hf : f_X12_run v1 v2 σ = some q) : AM l D cA sa ad bs 788 SHp yX12_run cX12_run 6 (some .int) 8 [.ref (ad 758), z_i v1, z_i v2] σ (some (z_i q.1)) (Z_I q.1) q.2 := by
  refine am_of (by decide +kernel) (Nat.le_of_ble_eq_true rfl) (fun p e s m args below meth c X hr => ?_)
  refine aw_lv (lv' := [(0, .ref (ad 758)), (1, z_i v1), (2, z_i v2)]) rfl ?_
  unfold f_X12_run at hf
  refine aw_aload_n X 0 dX12_run_0 rfl rfl ?_
  refine aw_iconst X dX12_run_1 ?_
  refine aw_putI X s_758 pX12_101 rfl (z_lit (x := 0) (by decide)) dX12_run_2 ?_
  refine aw_aload_n X 0 dX12_run_5 rfl rfl ?_
  refine aw_iload_n X 1 dX12_run_6 rfl rfl ?_
  obtain ⟨q1, e2, hf⟩ := z_bd hf
  refine aw_callV X [z_i v1] [] [z_i q1] cX12_493 s_758 ciX12 (C_X12_isScript l D cA sa ad bs v1 c_v1 (u2 σ 758 0 0) q1 e2) rfl ⟨(Nat.le_of_ble_eq_true rfl), (Nat.le_of_ble_eq_true rfl), (Nat.le_of_ble_eq_true rfl), (Nat.le_of_ble_eq_true rfl)⟩ rfl (Nat.le_of_ble_eq_true rfl) rfl dX12_run_7 (fun p3 => ?_)
  refine aw_if_eq X (tgt := 30) (z_zI p3) dX12_run_10 (by decide) (fun h4 => ?_) (fun h4 => ?_)
  · rw [if_pos h4] at hf
    refine aw_ldcw X (x := (-1000000)) dX12_run_30 kX12_431 (by decide) ?_
    obtain rfl := Option.some.inj hf
    exact aw_iret X (z_lit (x := (-1000000)) (by decide)) hr rfl dX12_run_33
  · rw [if_neg h4] at hf
    refine aw_aload_n X 0 dX12_run_13 rfl rfl ?_
    refine aw_getI X s_758 fX12_234 rfl dX12_run_14 (fun c5 => ?_)
    refine aw_if_eq X (tgt := 30) c5 dX12_run_17 (by decide) (fun h6 => ?_) (fun h6 => ?_)
    · rw [if_pos h6] at hf
      refine aw_ldcw X (x := (-1000000)) dX12_run_30 kX12_431 (by decide) ?_
      obtain rfl := Option.some.inj hf
      exact aw_iret X (z_lit (x := (-1000000)) (by decide)) hr rfl dX12_run_33
    · rw [if_neg h6] at hf
      refine aw_iload_n X 2 dX12_run_20 rfl rfl ?_
      refine aw_i2l X c_v2 dX12_run_21 ?_
      refine aw_lconst X (x := 0) dX12_run_22 (by decide) ?_
      refine aw_lconst X (x := 1) dX12_run_23 (by decide) ?_
      obtain ⟨q7, e8, hf⟩ := z_bd hf
      refine aw_callS X [z_v v2, z_v 0, z_v 1] [] [z_i q7] cX12_156 (C_X12_isIn l D cA sa ad bs v2 (z_IL c_v2) 0 (z_litL (x := 0) (by decide)) 1 (z_litL (x := 1) (by decide)) (u2 σ 758 0 0) q7 e8) rfl ⟨(Nat.le_of_ble_eq_true rfl), (Nat.le_of_ble_eq_true rfl), (Nat.le_of_ble_eq_true rfl), (Nat.le_of_ble_eq_true rfl)⟩ rfl (Nat.le_of_ble_eq_true rfl) rfl dX12_run_24 (fun p9 => ?_)
      refine aw_if_ne X (tgt := 34) (z_zI p9) dX12_run_27 (by decide) (fun h10 => ?_) (fun h10 => ?_)
      · rw [if_neg h10] at hf
        refine aw_aload_n X 0 dX12_run_34 rfl rfl ?_
        refine aw_getR X s_758 fX12_63 rfl dX12_run_35 ?_
        refine aw_iconst X dX12_run_38 ?_
        refine aw_aload_n X 0 dX12_run_39 rfl rfl ?_
        refine aw_getR X s_758 fX12_66 rfl dX12_run_40 ?_
        refine aw_iconst X dX12_run_43 ?_
        obtain ⟨q11, e12, hf⟩ := z_bd hf
        refine aw_callS X [.ref (ad 776), z_i 0, .ref (ad 777), z_i 0] [] [] cX12_333 (C_X12_copyRow l D cA sa ad bs 776 256 s_776 0 (z_lit (x := 0) (by decide)) 777 256 s_777 0 (z_lit (x := 0) (by decide)) (u2 σ 758 0 0) q11 e12) rfl ⟨(Nat.le_of_ble_eq_true rfl), (Nat.le_of_ble_eq_true rfl), (Nat.le_of_ble_eq_true rfl), (Nat.le_of_ble_eq_true rfl)⟩ rfl (Nat.le_of_ble_eq_true rfl) rfl dX12_run_44 (fun p13 => ?_)
        refine aw_iconst X dX12_run_47 ?_
        refine aw_istore_n X [(3, z_i 0), (0, .ref (ad 758)), (1, z_i v1), (2, z_i v2)] dX12_run_48 rfl (by decide) rfl ?_
        refine aw_iconst X dX12_run_49 ?_
        refine aw_istore X [(4, z_i 1), (3, z_i 0), (0, .ref (ad 758)), (1, z_i v1), (2, z_i v2)] dX12_run_50 (by decide) rfl ?_
        refine aw_sub [2, 3, 4, 1, 0] rfl ?_
        exact A_X12_run_52 X hr 100000 v1 c_v1 v2 c_v2 0 (z_lit (x := 0) (by decide)) 1 (z_lit (x := 1) (by decide)) q11 hf
      · rw [if_pos h10] at hf
        refine aw_ldcw X (x := (-1000000)) dX12_run_30 kX12_431 (by decide) ?_
        obtain rfl := Option.some.inj hf
        exact aw_iret X (z_lit (x := (-1000000)) (by decide)) hr rfl dX12_run_33
-- SpeedDeskModel.perform(I)I
section S_X12_perform
variable {p : Program} {l : Launch} {e : Env} {s : State} {m : MethodId} {args : Array Value} {below : List Frame} {meth : Method} {c : Code} {D : va_G} {cA : Nat → ClassId} {sa ad : Nat → Nat} {bs : Nat} {q : (Int × (Nat → Nat → Int))}
set_option maxHeartbeats 4000000 in
set_option maxRecDepth 100000 in
theorem A_X12_perform_112 (X : AX p s m args meth c D cA sa bs cX12_perform 5 RX12) (hr : meth.sig.returnType = (some .int)) (K26 : Int → Int → Int → (Nat → Nat → Int) → Option (Int × (Nat → Nat → Int))) (hK26 : ∀ (v1 : Int) (c_v1 : Z_I v1) (v2 : Int) (c_v2 : Z_I v2) (v3 : Int) (c_v3 : Z_I v3) (σ : Nat → Nat → Int), K26 v1 v2 v3 σ = some q → AW p l e (ax_rm 9 0 0) s m args below meth c D cA ad bs 788 SHp 0 0 (ax_MQ below args s D cA ad bs 788 SHp 0 0 (some (z_i q.1)) (Z_I q.1) q.2) 5 26 [(0, .ref (ad 758)), (1, z_i v1), (2, z_i v2), (3, z_i v3)] [] σ) (v1 : Int) (c_v1 : Z_I v1) (v2 : Int) (c_v2 : Z_I v2) (t0 : Int) (c_t0 : Z_I t0) (σ : Nat → Nat → Int) (hf : f_X12_perform_112 K26 v1 v2 t0 σ = some q) : AW p l e (ax_rm 9 0 0) s m args below meth c D cA ad bs 788 SHp 0 0 (ax_MQ below args s D cA ad bs 788 SHp 0 0 (some (z_i q.1)) (Z_I q.1) q.2) 5 112 [(0, .ref (ad 758)), (1, z_i v1), (2, z_i v2)] [z_i t0] σ := by
  unfold f_X12_perform_112 at hf
  refine aw_istore_n X [(3, z_i t0), (0, .ref (ad 758)), (1, z_i v1), (2, z_i v2)] dX12_perform_112 rfl (by decide) rfl ?_
  refine aw_iload_n X 0 dX12_perform_113 rfl rfl ?_
  refine aw_if_eq X (tgt := 120) c_t0 dX12_perform_114 (by decide) (fun h25 => ?_) (fun h25 => ?_)
  · simp only [if_pos h25] at hf
    refine aw_goto X (tgt := 26) dX12_perform_120 (by decide) ?_
    refine aw_sub [1, 2, 3, 0] rfl ?_
    exact hK26 v1 c_v1 v2 c_v2 t0 c_t0 σ hf
  · simp only [if_neg h25] at hf
    refine aw_iinc X 3 [(2, z_i (z_w (v2 + 1))), (3, z_i t0), (0, .ref (ad 758)), (1, z_i v1)] dX12_perform_117 rfl (by decide) rfl ?_
    refine aw_goto X (tgt := 26) dX12_perform_120 (by decide) ?_
    refine aw_sub [2, 3, 0, 1] rfl ?_
    exact hK26 v1 c_v1 (z_w (v2 + 1)) (z_w_in _) t0 c_t0 σ hf
set_option maxHeartbeats 4000000 in
set_option maxRecDepth 100000 in
theorem A_X12_perform_26 (X : AX p s m args meth c D cA sa bs cX12_perform 5 RX12) (hr : meth.sig.returnType = (some .int)) : ∀ (k : Nat) (v1 : Int) (c_v1 : Z_I v1) (v2 : Int) (c_v2 : Z_I v2) (v3 : Int) (c_v3 : Z_I v3) (σ : Nat → Nat → Int), f_X12_perform_26 k v1 v2 v3 σ = some q → AW p l e (ax_rm 9 0 0) s m args below meth c D cA ad bs 788 SHp 0 0 (ax_MQ below args s D cA ad bs 788 SHp 0 0 (some (z_i q.1)) (Z_I q.1) q.2) 5 26 [(0, .ref (ad 758)), (1, z_i v1), (2, z_i v2), (3, z_i v3)] [] σ := by
  intro k
  induction k with
  | zero =>
    intro v1 c_v1 v2 c_v2 v3 c_v3 σ hf
    unfold f_X12_perform_26 at hf
    cases hf
  | succ k ih =>
    intro v1 c_v1 v2 c_v2 v3 c_v3 σ hf
    unfold f_X12_perform_26 at hf
    refine aw_iload_n X 3 dX12_perform_26 rfl rfl ?_
    refine aw_if_eq X (tgt := 123) c_v3 dX12_perform_27 (by decide) (fun h7 => ?_) (fun h7 => ?_)
    · rw [if_pos h7] at hf
      refine aw_iload_n X 2 dX12_perform_123 rfl rfl ?_
      obtain rfl := Option.some.inj hf
      exact aw_iret X c_v2 hr rfl dX12_perform_124
    · rw [if_neg h7] at hf
      refine aw_iload_n X 2 dX12_perform_30 rfl rfl ?_
      refine aw_aload_n X 0 dX12_perform_31 rfl rfl ?_
      refine aw_getR X s_758 fX12_57 rfl dX12_perform_32 ?_
      refine aw_iload_n X 1 dX12_perform_35 rfl rfl ?_
      obtain ⟨g8, hf⟩ := z_gd hf
      refine aw_iald X (j := v1.toNat) s_774 c_v1 g8.1 g8.2 rfl dX12_perform_36 (fun c9 => ?_)
      refine aw_icmp_ge X (tgt := 123) c_v2 c9 dX12_perform_37 (by decide) (fun h10 => ?_) (fun h10 => ?_)
      · rw [if_pos h10] at hf
        refine aw_iload_n X 2 dX12_perform_123 rfl rfl ?_
        obtain rfl := Option.some.inj hf
        exact aw_iret X c_v2 hr rfl dX12_perform_124
      · rw [if_neg h10] at hf
        refine aw_iconst X dX12_perform_40 ?_
        refine aw_bipush X dX12_perform_41 (by decide) ?_
        refine aw_iload_n X 1 dX12_perform_43 rfl rfl ?_
        refine aw_imul X dX12_perform_44 ?_
        refine aw_iload_n X 2 dX12_perform_45 rfl rfl ?_
        refine aw_iadd X dX12_perform_46 ?_
        refine aw_imul X dX12_perform_47 ?_
        refine aw_istore X [(4, z_i (z_w (4 * (z_w ((z_w (12 * v1)) + v2))))), (0, .ref (ad 758)), (1, z_i v1), (2, z_i v2), (3, z_i v3)] dX12_perform_48 (by decide) rfl ?_
        refine aw_aload_n X 1 dX12_perform_50 rfl rfl ?_
        refine aw_aload_n X 1 dX12_perform_51 rfl rfl ?_
        refine aw_getR X s_758 fX12_60 rfl dX12_perform_52 ?_
        refine aw_bipush X dX12_perform_55 (by decide) ?_
        refine aw_iload_n X 2 dX12_perform_57 rfl rfl ?_
        refine aw_imul X dX12_perform_58 ?_
        refine aw_iload_n X 3 dX12_perform_59 rfl rfl ?_
        refine aw_iadd X dX12_perform_60 ?_
        obtain ⟨g11, hf⟩ := z_gd hf
        refine aw_lald X (j := (z_w ((z_w (12 * v1)) + v2)).toNat) s_775 (z_w_in _) g11.1 g11.2 rfl dX12_perform_61 (fun c12 => ?_)
        refine aw_putL X s_758 pX12_353 rfl c12 dX12_perform_62 ?_
        refine aw_aload_n X 1 dX12_perform_65 rfl rfl ?_
        refine aw_aload_n X 1 dX12_perform_66 rfl rfl ?_
        refine aw_getR X s_758 fX12_54 rfl dX12_perform_67 ?_
        refine aw_iload X 0 dX12_perform_70 rfl ?_
        obtain ⟨g13, hf⟩ := z_gd hf
        refine aw_iald X (j := (z_w (4 * (z_w ((z_w (12 * v1)) + v2)))).toNat) s_773 (z_w_in _) g13.1 g13.2 rfl dX12_perform_72 (fun c14 => ?_)
        refine aw_aload_n X 1 dX12_perform_73 rfl rfl ?_
        refine aw_getR X s_758 fX12_54 rfl dX12_perform_74 ?_
        refine aw_iload X 0 dX12_perform_77 rfl ?_
        refine aw_iconst X dX12_perform_79 ?_
        refine aw_iadd X dX12_perform_80 ?_
        obtain ⟨g15, hf⟩ := z_gd hf
        refine aw_iald X (j := (z_w ((z_w (4 * (z_w ((z_w (12 * v1)) + v2)))) + 1)).toNat) s_773 (z_w_in _) g15.1 g15.2 rfl dX12_perform_81 (fun c16 => ?_)
        refine aw_aload_n X 1 dX12_perform_82 rfl rfl ?_
        refine aw_getR X s_758 fX12_54 rfl dX12_perform_83 ?_
        refine aw_iload X 0 dX12_perform_86 rfl ?_
        refine aw_iconst X dX12_perform_88 ?_
        refine aw_iadd X dX12_perform_89 ?_
        obtain ⟨g17, hf⟩ := z_gd hf
        refine aw_iald X (j := (z_w ((z_w (4 * (z_w ((z_w (12 * v1)) + v2)))) + 2)).toNat) s_773 (z_w_in _) g17.1 g17.2 rfl dX12_perform_90 (fun c18 => ?_)
        refine aw_aload_n X 1 dX12_perform_91 rfl rfl ?_
        refine aw_getR X s_758 fX12_54 rfl dX12_perform_92 ?_
        refine aw_iload X 0 dX12_perform_95 rfl ?_
        refine aw_iconst X dX12_perform_97 ?_
        refine aw_iadd X dX12_perform_98 ?_
        obtain ⟨g19, hf⟩ := z_gd hf
        refine aw_iald X (j := (z_w ((z_w (4 * (z_w ((z_w (12 * v1)) + v2)))) + 3)).toNat) s_773 (z_w_in _) g19.1 g19.2 rfl dX12_perform_99 (fun c20 => ?_)
        obtain ⟨q21, e22, hf⟩ := z_bd hf
        refine aw_callV X [z_i ((u2 σ 758 41 (σ 775 (z_w ((z_w (12 * v1)) + v2)).toNat)) 773 (z_w (4 * (z_w ((z_w (12 * v1)) + v2)))).toNat), z_i ((u2 σ 758 41 (σ 775 (z_w ((z_w (12 * v1)) + v2)).toNat)) 773 (z_w ((z_w (4 * (z_w ((z_w (12 * v1)) + v2)))) + 1)).toNat), z_i ((u2 σ 758 41 (σ 775 (z_w ((z_w (12 * v1)) + v2)).toNat)) 773 (z_w ((z_w (4 * (z_w ((z_w (12 * v1)) + v2)))) + 2)).toNat), z_i ((u2 σ 758 41 (σ 775 (z_w ((z_w (12 * v1)) + v2)).toNat)) 773 (z_w ((z_w (4 * (z_w ((z_w (12 * v1)) + v2)))) + 3)).toNat)] [] [z_i q21.1] cX12_404 s_758 ciX12 (C_X12_tries l D cA sa ad bs ((u2 σ 758 41 (σ 775 (z_w ((z_w (12 * v1)) + v2)).toNat)) 773 (z_w (4 * (z_w ((z_w (12 * v1)) + v2)))).toNat) c14 ((u2 σ 758 41 (σ 775 (z_w ((z_w (12 * v1)) + v2)).toNat)) 773 (z_w ((z_w (4 * (z_w ((z_w (12 * v1)) + v2)))) + 1)).toNat) c16 ((u2 σ 758 41 (σ 775 (z_w ((z_w (12 * v1)) + v2)).toNat)) 773 (z_w ((z_w (4 * (z_w ((z_w (12 * v1)) + v2)))) + 2)).toNat) c18 ((u2 σ 758 41 (σ 775 (z_w ((z_w (12 * v1)) + v2)).toNat)) 773 (z_w ((z_w (4 * (z_w ((z_w (12 * v1)) + v2)))) + 3)).toNat) c20 (u2 σ 758 41 (σ 775 (z_w ((z_w (12 * v1)) + v2)).toNat)) q21 e22) rfl ⟨(Nat.le_of_ble_eq_true rfl), (Nat.le_of_ble_eq_true rfl), (Nat.le_of_ble_eq_true rfl), (Nat.le_of_ble_eq_true rfl)⟩ rfl (Nat.le_of_ble_eq_true rfl) rfl dX12_perform_100 (fun p23 => ?_)
        refine aw_iconst X dX12_perform_103 ?_
        refine aw_icmp_ne X (tgt := 111) p23 (z_lit (x := (-1)) (by decide)) dX12_perform_104 (by decide) (fun h24 => ?_) (fun h24 => ?_)
        · simp only [if_neg h24] at hf
          refine aw_iconst X dX12_perform_111 ?_
          refine aw_sub [1, 2, 3] rfl ?_
          exact A_X12_perform_112 X hr (f_X12_perform_26 k) ih v1 c_v1 v2 c_v2 0 (z_lit (x := 0) (by decide)) q21.2 hf
        · simp only [if_pos h24] at hf
          refine aw_iconst X dX12_perform_107 ?_
          refine aw_goto X (tgt := 112) dX12_perform_108 (by decide) ?_
          refine aw_sub [1, 2, 3] rfl ?_
          exact A_X12_perform_112 X hr (f_X12_perform_26 k) ih v1 c_v1 v2 c_v2 1 (z_lit (x := 1) (by decide)) q21.2 hf
end S_X12_perform
set_option maxHeartbeats 4000000 in
set_option maxRecDepth 100000 in
theorem C_X12_perform (l : Launch) (D : va_G) (cA : Nat → ClassId) (sa ad : Nat → Nat) (bs : Nat) (v1 : Int) (c_v1 : Z_I v1) (σ : Nat → Nat → Int) (q : (Int × (Nat → Nat → Int))) (hf : f_X12_perform v1 σ = some q) : AM l D cA sa ad bs 788 SHp yX12_perform cX12_perform 5 (some .int) 9 [.ref (ad 758), z_i v1] σ (some (z_i q.1)) (Z_I q.1) q.2 := by
  refine am_of (by decide +kernel) (Nat.le_of_ble_eq_true rfl) (fun p e s m args below meth c X hr => ?_)
  refine aw_lv (lv' := [(0, .ref (ad 758)), (1, z_i v1)]) rfl ?_
  unfold f_X12_perform at hf
  refine aw_aload_n X 0 dX12_perform_0 rfl rfl ?_
  refine aw_iconst X dX12_perform_1 ?_
  refine aw_putI X s_758 pX12_101 rfl (z_lit (x := 0) (by decide)) dX12_perform_2 ?_
  refine aw_aload_n X 0 dX12_perform_5 rfl rfl ?_
  refine aw_iload_n X 1 dX12_perform_6 rfl rfl ?_
  obtain ⟨q1, e2, hf⟩ := z_bd hf
  refine aw_callV X [z_i v1] [] [z_i q1] cX12_493 s_758 ciX12 (C_X12_isScript l D cA sa ad bs v1 c_v1 (u2 σ 758 0 0) q1 e2) rfl ⟨(Nat.le_of_ble_eq_true rfl), (Nat.le_of_ble_eq_true rfl), (Nat.le_of_ble_eq_true rfl), (Nat.le_of_ble_eq_true rfl)⟩ rfl (Nat.le_of_ble_eq_true rfl) rfl dX12_perform_7 (fun p3 => ?_)
  refine aw_if_eq X (tgt := 20) (z_zI p3) dX12_perform_10 (by decide) (fun h4 => ?_) (fun h4 => ?_)
  · rw [if_pos h4] at hf
    refine aw_iconst X dX12_perform_20 ?_
    obtain rfl := Option.some.inj hf
    exact aw_iret X (z_lit (x := (-1)) (by decide)) hr rfl dX12_perform_21
  · rw [if_neg h4] at hf
    refine aw_aload_n X 0 dX12_perform_13 rfl rfl ?_
    refine aw_getI X s_758 fX12_234 rfl dX12_perform_14 (fun c5 => ?_)
    refine aw_if_ne X (tgt := 22) c5 dX12_perform_17 (by decide) (fun h6 => ?_) (fun h6 => ?_)
    · rw [if_neg h6] at hf
      refine aw_iconst X dX12_perform_22 ?_
      refine aw_istore_n X [(2, z_i 0), (0, .ref (ad 758)), (1, z_i v1)] dX12_perform_23 rfl (by decide) rfl ?_
      refine aw_iconst X dX12_perform_24 ?_
      refine aw_istore_n X [(3, z_i 1), (2, z_i 0), (0, .ref (ad 758)), (1, z_i v1)] dX12_perform_25 rfl (by decide) rfl ?_
      refine aw_sub [2, 3, 1, 0] rfl ?_
      exact A_X12_perform_26 X hr 100000 v1 c_v1 0 (z_lit (x := 0) (by decide)) 1 (z_lit (x := 1) (by decide)) (u2 σ 758 0 0) hf
    · rw [if_pos h6] at hf
      refine aw_iconst X dX12_perform_20 ?_
      obtain rfl := Option.some.inj hf
      exact aw_iret X (z_lit (x := (-1)) (by decide)) hr rfl dX12_perform_21
-- SpeedDeskModel.bitsOf(II)I
section S_X12_bitsOf
variable {p : Program} {l : Launch} {e : Env} {s : State} {m : MethodId} {args : Array Value} {below : List Frame} {meth : Method} {c : Code} {D : va_G} {cA : Nat → ClassId} {sa ad : Nat → Nat} {bs : Nat} {q : Int}
set_option maxHeartbeats 4000000 in
set_option maxRecDepth 100000 in
theorem A_X12_bitsOf_5 (X : AX p s m args meth c D cA sa bs cX12_bitsOf 5 RX12) (hr : meth.sig.returnType = (some .int)) (σ : Nat → Nat → Int) : ∀ (k : Nat) (v1 : Int) (c_v1 : Z_I v1) (v2 : Int) (c_v2 : Z_I v2) (v3 : Int) (c_v3 : Z_I v3) (v4 : Int) (c_v4 : Z_I v4), f_X12_bitsOf_5 k v1 v2 v3 v4 σ = some q → AW p l e (ax_rm 0 0 0) s m args below meth c D cA ad bs 788 SHp 0 0 (ax_MQ below args s D cA ad bs 788 SHp 0 0 (some (z_i q)) (Z_I q) σ) 5 5 [(0, .ref (ad 758)), (1, z_i v1), (2, z_i v2), (3, z_i v3), (4, z_i v4)] [] σ := by
  intro k
  induction k with
  | zero =>
    intro v1 c_v1 v2 c_v2 v3 c_v3 v4 c_v4 hf
    unfold f_X12_bitsOf_5 at hf
    cases hf
  | succ k ih =>
    intro v1 c_v1 v2 c_v2 v3 c_v3 v4 c_v4 hf
    unfold f_X12_bitsOf_5 at hf
    refine aw_iload X 4 dX12_bitsOf_5 rfl ?_
    refine aw_iload_n X 2 dX12_bitsOf_7 rfl rfl ?_
    refine aw_icmp_ge X (tgt := 40) c_v4 c_v2 dX12_bitsOf_8 (by decide) (fun h1 => ?_) (fun h1 => ?_)
    · rw [if_pos h1] at hf
      refine aw_iload_n X 3 dX12_bitsOf_40 rfl rfl ?_
      obtain rfl := Option.some.inj hf
      exact aw_iret X c_v3 hr rfl dX12_bitsOf_41
    · rw [if_neg h1] at hf
      refine aw_iload_n X 3 dX12_bitsOf_11 rfl rfl ?_
      refine aw_aload_n X 0 dX12_bitsOf_12 rfl rfl ?_
      refine aw_getR X s_758 fX12_63 rfl dX12_bitsOf_13 ?_
      refine aw_iload_n X 1 dX12_bitsOf_16 rfl rfl ?_
      refine aw_iload X 4 dX12_bitsOf_17 rfl ?_
      refine aw_iadd X dX12_bitsOf_19 ?_
      obtain ⟨g2, hf⟩ := z_gd hf
      refine aw_iald X (j := (z_w (v1 + v4)).toNat) s_776 (z_w_in _) g2.1 g2.2 rfl dX12_bitsOf_20 (fun c3 => ?_)
      refine aw_if_le X (tgt := 31) c3 dX12_bitsOf_21 (by decide) (fun h4 => ?_) (fun h4 => ?_)
      · simp only [if_pos h4] at hf
        refine aw_iconst X dX12_bitsOf_31 ?_
        refine aw_ior X dX12_bitsOf_32 ?_
        refine aw_istore_n X [(3, z_i (z_or v3 0)), (0, .ref (ad 758)), (1, z_i v1), (2, z_i v2), (4, z_i v4)] dX12_bitsOf_33 rfl (by decide) rfl ?_
        refine aw_iinc X 4 [(4, z_i (z_w (v4 + 1))), (3, z_i (z_or v3 0)), (0, .ref (ad 758)), (1, z_i v1), (2, z_i v2)] dX12_bitsOf_34 rfl (by decide) rfl ?_
        refine aw_goto X (tgt := 5) dX12_bitsOf_37 (by decide) ?_
        refine aw_sub [2, 3, 4, 1, 0] rfl ?_
        exact ih v1 c_v1 v2 c_v2 (z_or v3 0) (z_or_in _ _) (z_w (v4 + 1)) (z_w_in _) hf
      · simp only [if_neg h4] at hf
        refine aw_iconst X dX12_bitsOf_24 ?_
        refine aw_iload X 4 dX12_bitsOf_25 rfl ?_
        refine aw_ishl X dX12_bitsOf_27 ?_
        refine aw_goto X (tgt := 32) dX12_bitsOf_28 (by decide) ?_
        refine aw_ior X dX12_bitsOf_32 ?_
        refine aw_istore_n X [(3, z_i (z_or v3 (z_shl 1 v4))), (0, .ref (ad 758)), (1, z_i v1), (2, z_i v2), (4, z_i v4)] dX12_bitsOf_33 rfl (by decide) rfl ?_
        refine aw_iinc X 4 [(4, z_i (z_w (v4 + 1))), (3, z_i (z_or v3 (z_shl 1 v4))), (0, .ref (ad 758)), (1, z_i v1), (2, z_i v2)] dX12_bitsOf_34 rfl (by decide) rfl ?_
        refine aw_goto X (tgt := 5) dX12_bitsOf_37 (by decide) ?_
        refine aw_sub [2, 3, 4, 1, 0] rfl ?_
        exact ih v1 c_v1 v2 c_v2 (z_or v3 (z_shl 1 v4)) (z_or_in _ _) (z_w (v4 + 1)) (z_w_in _) hf
end S_X12_bitsOf
set_option maxHeartbeats 4000000 in
set_option maxRecDepth 100000 in
theorem C_X12_bitsOf (l : Launch) (D : va_G) (cA : Nat → ClassId) (sa ad : Nat → Nat) (bs : Nat) (v1 : Int) (c_v1 : Z_I v1) (v2 : Int) (c_v2 : Z_I v2) (σ : Nat → Nat → Int) (q : Int) (hf : f_X12_bitsOf v1 v2 σ = some q) : AM l D cA sa ad bs 788 SHp yX12_bitsOf cX12_bitsOf 5 (some .int) 0 [.ref (ad 758), z_i v1, z_i v2] σ (some (z_i q)) (Z_I q) σ := by
  refine am_of (by decide +kernel) (Nat.le_of_ble_eq_true rfl) (fun p e s m args below meth c X hr => ?_)
  refine aw_lv (lv' := [(0, .ref (ad 758)), (1, z_i v1), (2, z_i v2)]) rfl ?_
  unfold f_X12_bitsOf at hf
  refine aw_iconst X dX12_bitsOf_0 ?_
  refine aw_istore_n X [(3, z_i 0), (0, .ref (ad 758)), (1, z_i v1), (2, z_i v2)] dX12_bitsOf_1 rfl (by decide) rfl ?_
  refine aw_iconst X dX12_bitsOf_2 ?_
  refine aw_istore X [(4, z_i 0), (3, z_i 0), (0, .ref (ad 758)), (1, z_i v1), (2, z_i v2)] dX12_bitsOf_3 (by decide) rfl ?_
  refine aw_sub [2, 3, 4, 1, 0] rfl ?_
  exact A_X12_bitsOf_5 X hr σ 100000 v1 c_v1 v2 c_v2 0 (z_lit (x := 0) (by decide)) 0 (z_lit (x := 0) (by decide)) hf
-- SpeedDeskModel.loadest()I
section S_X12_loadest
variable {p : Program} {l : Launch} {e : Env} {s : State} {m : MethodId} {args : Array Value} {below : List Frame} {meth : Method} {c : Code} {D : va_G} {cA : Nat → ClassId} {sa ad : Nat → Nat} {bs : Nat} {q : Int}
set_option maxHeartbeats 4000000 in
set_option maxRecDepth 100000 in
theorem A_X12_loadest_4 (X : AX p s m args meth c D cA sa bs cX12_loadest 3 RX12) (hr : meth.sig.returnType = (some .int)) (σ : Nat → Nat → Int) : ∀ (k : Nat) (v1 : Int) (c_v1 : Z_I v1) (v2 : Int) (c_v2 : Z_I v2), f_X12_loadest_4 k v1 v2 σ = some q → AW p l e (ax_rm 0 0 0) s m args below meth c D cA ad bs 788 SHp 0 0 (ax_MQ below args s D cA ad bs 788 SHp 0 0 (some (z_i q)) (Z_I q) σ) 3 4 [(0, .ref (ad 758)), (1, z_i v1), (2, z_i v2)] [] σ := by
  intro k
  induction k with
  | zero =>
    intro v1 c_v1 v2 c_v2 hf
    unfold f_X12_loadest_4 at hf
    cases hf
  | succ k ih =>
    intro v1 c_v1 v2 c_v2 hf
    unfold f_X12_loadest_4 at hf
    refine aw_iload_n X 2 dX12_loadest_4 rfl rfl ?_
    refine aw_aload_n X 0 dX12_loadest_5 rfl rfl ?_
    refine aw_getI X s_758 fX12_237 rfl dX12_loadest_6 (fun c1 => ?_)
    refine aw_icmp_ge X (tgt := 46) c_v2 c1 dX12_loadest_9 (by decide) (fun h2 => ?_) (fun h2 => ?_)
    · rw [if_pos h2] at hf
      refine aw_iload_n X 1 dX12_loadest_46 rfl rfl ?_
      obtain rfl := Option.some.inj hf
      exact aw_iret X c_v1 hr rfl dX12_loadest_47
    · rw [if_neg h2] at hf
      refine aw_iload_n X 1 dX12_loadest_12 rfl rfl ?_
      refine aw_iconst X dX12_loadest_13 ?_
      refine aw_icmp_eq X (tgt := 38) c_v1 (z_lit (x := (-1)) (by decide)) dX12_loadest_14 (by decide) (fun h3 => ?_) (fun h3 => ?_)
      · rw [if_pos h3] at hf
        refine aw_iload_n X 2 dX12_loadest_38 rfl rfl ?_
        refine aw_istore_n X [(1, z_i v2), (0, .ref (ad 758)), (2, z_i v2)] dX12_loadest_39 rfl (by decide) rfl ?_
        refine aw_iinc X 2 [(2, z_i (z_w (v2 + 1))), (1, z_i v2), (0, .ref (ad 758))] dX12_loadest_40 rfl (by decide) rfl ?_
        refine aw_goto X (tgt := 4) dX12_loadest_43 (by decide) ?_
        refine aw_sub [2, 1, 0] rfl ?_
        exact ih v2 c_v2 (z_w (v2 + 1)) (z_w_in _) hf
      · rw [if_neg h3] at hf
        refine aw_aload_n X 0 dX12_loadest_17 rfl rfl ?_
        refine aw_getR X s_758 fX12_63 rfl dX12_loadest_18 ?_
        refine aw_bipush X dX12_loadest_21 (by decide) ?_
        refine aw_iload_n X 2 dX12_loadest_23 rfl rfl ?_
        refine aw_iadd X dX12_loadest_24 ?_
        obtain ⟨g4, hf⟩ := z_gd hf
        refine aw_iald X (j := (z_w (29 + v2)).toNat) s_776 (z_w_in _) g4.1 g4.2 rfl dX12_loadest_25 (fun c5 => ?_)
        refine aw_aload_n X 0 dX12_loadest_26 rfl rfl ?_
        refine aw_getR X s_758 fX12_63 rfl dX12_loadest_27 ?_
        refine aw_bipush X dX12_loadest_30 (by decide) ?_
        refine aw_iload_n X 1 dX12_loadest_32 rfl rfl ?_
        refine aw_iadd X dX12_loadest_33 ?_
        obtain ⟨g6, hf⟩ := z_gd hf
        refine aw_iald X (j := (z_w (29 + v1)).toNat) s_776 (z_w_in _) g6.1 g6.2 rfl dX12_loadest_34 (fun c7 => ?_)
        refine aw_icmp_le X (tgt := 40) c5 c7 dX12_loadest_35 (by decide) (fun h8 => ?_) (fun h8 => ?_)
        · simp only [if_pos h8] at hf
          refine aw_iinc X 2 [(2, z_i (z_w (v2 + 1))), (0, .ref (ad 758)), (1, z_i v1)] dX12_loadest_40 rfl (by decide) rfl ?_
          refine aw_goto X (tgt := 4) dX12_loadest_43 (by decide) ?_
          refine aw_sub [1, 2, 0] rfl ?_
          exact ih v1 c_v1 (z_w (v2 + 1)) (z_w_in _) hf
        · simp only [if_neg h8] at hf
          refine aw_iload_n X 2 dX12_loadest_38 rfl rfl ?_
          refine aw_istore_n X [(1, z_i v2), (0, .ref (ad 758)), (2, z_i v2)] dX12_loadest_39 rfl (by decide) rfl ?_
          refine aw_iinc X 2 [(2, z_i (z_w (v2 + 1))), (1, z_i v2), (0, .ref (ad 758))] dX12_loadest_40 rfl (by decide) rfl ?_
          refine aw_goto X (tgt := 4) dX12_loadest_43 (by decide) ?_
          refine aw_sub [2, 1, 0] rfl ?_
          exact ih v2 c_v2 (z_w (v2 + 1)) (z_w_in _) hf
end S_X12_loadest
set_option maxHeartbeats 4000000 in
set_option maxRecDepth 100000 in
theorem C_X12_loadest (l : Launch) (D : va_G) (cA : Nat → ClassId) (sa ad : Nat → Nat) (bs : Nat)  (σ : Nat → Nat → Int) (q : Int) (hf : f_X12_loadest σ = some q) : AM l D cA sa ad bs 788 SHp yX12_loadest cX12_loadest 3 (some .int) 0 [.ref (ad 758)] σ (some (z_i q)) (Z_I q) σ := by
  refine am_of (by decide +kernel) (Nat.le_of_ble_eq_true rfl) (fun p e s m args below meth c X hr => ?_)
  refine aw_lv (lv' := [(0, .ref (ad 758))]) rfl ?_
  unfold f_X12_loadest at hf
  refine aw_iconst X dX12_loadest_0 ?_
  refine aw_istore_n X [(1, z_i (-1)), (0, .ref (ad 758))] dX12_loadest_1 rfl (by decide) rfl ?_
  refine aw_iconst X dX12_loadest_2 ?_
  refine aw_istore_n X [(2, z_i 0), (1, z_i (-1)), (0, .ref (ad 758))] dX12_loadest_3 rfl (by decide) rfl ?_
  refine aw_sub [2, 1, 0] rfl ?_
  exact A_X12_loadest_4 X hr σ 100000 (-1) (z_lit (x := (-1)) (by decide)) 0 (z_lit (x := 0) (by decide)) hf
-- SpeedDeskModel.fullest()I
section S_X12_fullest
variable {p : Program} {l : Launch} {e : Env} {s : State} {m : MethodId} {args : Array Value} {below : List Frame} {meth : Method} {c : Code} {D : va_G} {cA : Nat → ClassId} {sa ad : Nat → Nat} {bs : Nat} {q : Int}
set_option maxHeartbeats 4000000 in
set_option maxRecDepth 100000 in
theorem A_X12_fullest_4 (X : AX p s m args meth c D cA sa bs cX12_fullest 3 RX12) (hr : meth.sig.returnType = (some .int)) (σ : Nat → Nat → Int) : ∀ (k : Nat) (v1 : Int) (c_v1 : Z_I v1) (v2 : Int) (c_v2 : Z_I v2), f_X12_fullest_4 k v1 v2 σ = some q → AW p l e (ax_rm 3 0 0) s m args below meth c D cA ad bs 788 SHp 0 0 (ax_MQ below args s D cA ad bs 788 SHp 0 0 (some (z_i q)) (Z_I q) σ) 3 4 [(0, .ref (ad 758)), (1, z_i v1), (2, z_i v2)] [] σ := by
  intro k
  induction k with
  | zero =>
    intro v1 c_v1 v2 c_v2 hf
    unfold f_X12_fullest_4 at hf
    cases hf
  | succ k ih =>
    intro v1 c_v1 v2 c_v2 hf
    unfold f_X12_fullest_4 at hf
    refine aw_iload_n X 2 dX12_fullest_4 rfl rfl ?_
    refine aw_aload_n X 0 dX12_fullest_5 rfl rfl ?_
    refine aw_getI X s_758 fX12_240 rfl dX12_fullest_6 (fun c1 => ?_)
    refine aw_icmp_ge X (tgt := 33) c_v2 c1 dX12_fullest_9 (by decide) (fun h2 => ?_) (fun h2 => ?_)
    · rw [if_pos h2] at hf
      refine aw_iload_n X 1 dX12_fullest_33 rfl rfl ?_
      obtain rfl := Option.some.inj hf
      exact aw_iret X c_v1 hr rfl dX12_fullest_34
    · rw [if_neg h2] at hf
      refine aw_aload_n X 0 dX12_fullest_12 rfl rfl ?_
      refine aw_iload_n X 2 dX12_fullest_13 rfl rfl ?_
      obtain ⟨q3, e4, hf⟩ := z_bd hf
      refine aw_callV X [z_i v2] [] [z_i q3] cX12_469 s_758 ciX12 (C_X12_sharesOn l D cA sa ad bs v2 c_v2 σ q3 e4) rfl ⟨(Nat.le_of_ble_eq_true rfl), (Nat.le_of_ble_eq_true rfl), (Nat.le_of_ble_eq_true rfl), (Nat.le_of_ble_eq_true rfl)⟩ rfl (Nat.le_of_ble_eq_true rfl) rfl dX12_fullest_14 (fun p5 => ?_)
      refine aw_aload_n X 0 dX12_fullest_17 rfl rfl ?_
      refine aw_iload_n X 1 dX12_fullest_18 rfl rfl ?_
      obtain ⟨q6, e7, hf⟩ := z_bd hf
      refine aw_callV X [z_i v1] [z_i q3] [z_i q6, z_i q3] cX12_469 s_758 ciX12 (C_X12_sharesOn l D cA sa ad bs v1 c_v1 σ q6 e7) rfl ⟨(Nat.le_of_ble_eq_true rfl), (Nat.le_of_ble_eq_true rfl), (Nat.le_of_ble_eq_true rfl), (Nat.le_of_ble_eq_true rfl)⟩ rfl (Nat.le_of_ble_eq_true rfl) rfl dX12_fullest_19 (fun p8 => ?_)
      refine aw_icmp_le X (tgt := 27) p5 p8 dX12_fullest_22 (by decide) (fun h9 => ?_) (fun h9 => ?_)
      · simp only [if_pos h9] at hf
        refine aw_iinc X 2 [(2, z_i (z_w (v2 + 1))), (0, .ref (ad 758)), (1, z_i v1)] dX12_fullest_27 rfl (by decide) rfl ?_
        refine aw_goto X (tgt := 4) dX12_fullest_30 (by decide) ?_
        refine aw_sub [1, 2, 0] rfl ?_
        exact ih v1 c_v1 (z_w (v2 + 1)) (z_w_in _) hf
      · simp only [if_neg h9] at hf
        refine aw_iload_n X 2 dX12_fullest_25 rfl rfl ?_
        refine aw_istore_n X [(1, z_i v2), (0, .ref (ad 758)), (2, z_i v2)] dX12_fullest_26 rfl (by decide) rfl ?_
        refine aw_iinc X 2 [(2, z_i (z_w (v2 + 1))), (1, z_i v2), (0, .ref (ad 758))] dX12_fullest_27 rfl (by decide) rfl ?_
        refine aw_goto X (tgt := 4) dX12_fullest_30 (by decide) ?_
        refine aw_sub [2, 1, 0] rfl ?_
        exact ih v2 c_v2 (z_w (v2 + 1)) (z_w_in _) hf
end S_X12_fullest
set_option maxHeartbeats 4000000 in
set_option maxRecDepth 100000 in
theorem C_X12_fullest (l : Launch) (D : va_G) (cA : Nat → ClassId) (sa ad : Nat → Nat) (bs : Nat)  (σ : Nat → Nat → Int) (q : Int) (hf : f_X12_fullest σ = some q) : AM l D cA sa ad bs 788 SHp yX12_fullest cX12_fullest 3 (some .int) 3 [.ref (ad 758)] σ (some (z_i q)) (Z_I q) σ := by
  refine am_of (by decide +kernel) (Nat.le_of_ble_eq_true rfl) (fun p e s m args below meth c X hr => ?_)
  refine aw_lv (lv' := [(0, .ref (ad 758))]) rfl ?_
  unfold f_X12_fullest at hf
  refine aw_iconst X dX12_fullest_0 ?_
  refine aw_istore_n X [(1, z_i 0), (0, .ref (ad 758))] dX12_fullest_1 rfl (by decide) rfl ?_
  refine aw_iconst X dX12_fullest_2 ?_
  refine aw_istore_n X [(2, z_i 1), (1, z_i 0), (0, .ref (ad 758))] dX12_fullest_3 rfl (by decide) rfl ?_
  refine aw_sub [2, 1, 0] rfl ?_
  exact A_X12_fullest_4 X hr σ 100000 0 (z_lit (x := 0) (by decide)) 1 (z_lit (x := 1) (by decide)) hf
-- SpeedDeskModel.shares()I
section S_X12_shares
variable {p : Program} {l : Launch} {e : Env} {s : State} {m : MethodId} {args : Array Value} {below : List Frame} {meth : Method} {c : Code} {D : va_G} {cA : Nat → ClassId} {sa ad : Nat → Nat} {bs : Nat} {q : Int}
set_option maxHeartbeats 4000000 in
set_option maxRecDepth 100000 in
theorem A_X12_shares_4 (X : AX p s m args meth c D cA sa bs cX12_shares 3 RX12) (hr : meth.sig.returnType = (some .int)) (σ : Nat → Nat → Int) : ∀ (k : Nat) (v1 : Int) (c_v1 : Z_I v1) (v2 : Int) (c_v2 : Z_I v2), f_X12_shares_4 k v1 v2 σ = some q → AW p l e (ax_rm 2 0 0) s m args below meth c D cA ad bs 788 SHp 0 0 (ax_MQ below args s D cA ad bs 788 SHp 0 0 (some (z_i q)) (Z_I q) σ) 3 4 [(0, .ref (ad 758)), (1, z_i v1), (2, z_i v2)] [] σ := by
  intro k
  induction k with
  | zero =>
    intro v1 c_v1 v2 c_v2 hf
    unfold f_X12_shares_4 at hf
    cases hf
  | succ k ih =>
    intro v1 c_v1 v2 c_v2 hf
    unfold f_X12_shares_4 at hf
    refine aw_iload_n X 2 dX12_shares_4 rfl rfl ?_
    refine aw_aload_n X 0 dX12_shares_5 rfl rfl ?_
    refine aw_getI X s_758 fX12_237 rfl dX12_shares_6 (fun c1 => ?_)
    refine aw_icmp_ge X (tgt := 30) c_v2 c1 dX12_shares_9 (by decide) (fun h2 => ?_) (fun h2 => ?_)
    · rw [if_pos h2] at hf
      refine aw_iload_n X 1 dX12_shares_30 rfl rfl ?_
      obtain rfl := Option.some.inj hf
      exact aw_iret X c_v1 hr rfl dX12_shares_31
    · rw [if_neg h2] at hf
      refine aw_iload_n X 1 dX12_shares_12 rfl rfl ?_
      refine aw_aload_n X 0 dX12_shares_13 rfl rfl ?_
      refine aw_aload_n X 0 dX12_shares_14 rfl rfl ?_
      refine aw_getR X s_758 fX12_63 rfl dX12_shares_15 ?_
      refine aw_iload_n X 2 dX12_shares_18 rfl rfl ?_
      obtain ⟨q3, e4, hf⟩ := z_bd hf
      refine aw_callV X [.ref (ad 776), z_i v2] [z_i v1] [z_i q3, z_i v1] cX12_435 s_758 ciX12 (C_X12_shareOf l D cA sa ad bs 776 s_776 v2 c_v2 σ q3 e4) rfl ⟨(Nat.le_of_ble_eq_true rfl), (Nat.le_of_ble_eq_true rfl), (Nat.le_of_ble_eq_true rfl), (Nat.le_of_ble_eq_true rfl)⟩ rfl (Nat.le_of_ble_eq_true rfl) rfl dX12_shares_19 (fun p5 => ?_)
      refine aw_iadd X dX12_shares_22 ?_
      refine aw_istore_n X [(1, z_i (z_w (v1 + q3))), (0, .ref (ad 758)), (2, z_i v2)] dX12_shares_23 rfl (by decide) rfl ?_
      refine aw_iinc X 2 [(2, z_i (z_w (v2 + 1))), (1, z_i (z_w (v1 + q3))), (0, .ref (ad 758))] dX12_shares_24 rfl (by decide) rfl ?_
      refine aw_goto X (tgt := 4) dX12_shares_27 (by decide) ?_
      refine aw_sub [2, 1, 0] rfl ?_
      exact ih (z_w (v1 + q3)) (z_w_in _) (z_w (v2 + 1)) (z_w_in _) hf
end S_X12_shares
set_option maxHeartbeats 4000000 in
set_option maxRecDepth 100000 in
theorem C_X12_shares (l : Launch) (D : va_G) (cA : Nat → ClassId) (sa ad : Nat → Nat) (bs : Nat)  (σ : Nat → Nat → Int) (q : Int) (hf : f_X12_shares σ = some q) : AM l D cA sa ad bs 788 SHp yX12_shares cX12_shares 3 (some .int) 2 [.ref (ad 758)] σ (some (z_i q)) (Z_I q) σ := by
  refine am_of (by decide +kernel) (Nat.le_of_ble_eq_true rfl) (fun p e s m args below meth c X hr => ?_)
  refine aw_lv (lv' := [(0, .ref (ad 758))]) rfl ?_
  unfold f_X12_shares at hf
  refine aw_iconst X dX12_shares_0 ?_
  refine aw_istore_n X [(1, z_i 0), (0, .ref (ad 758))] dX12_shares_1 rfl (by decide) rfl ?_
  refine aw_iconst X dX12_shares_2 ?_
  refine aw_istore_n X [(2, z_i 0), (1, z_i 0), (0, .ref (ad 758))] dX12_shares_3 rfl (by decide) rfl ?_
  refine aw_sub [2, 1, 0] rfl ?_
  exact A_X12_shares_4 X hr σ 100000 0 (z_lit (x := 0) (by decide)) 0 (z_lit (x := 0) (by decide)) hf
