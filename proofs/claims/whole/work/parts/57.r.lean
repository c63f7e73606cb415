-- SpeedDeskModel.odds(I)I
section S_X12_odds
variable {p : Program} {l : Launch} {e : Env} {s : State} {m : MethodId} {args : Array Value} {below : List Frame} {meth : Method} {c : Code} {D : va_G} {cA : Nat → ClassId} {sa ad : Nat → Nat} {bs : Nat} {q : (Int × (Nat → Nat → Int))}
set_option maxHeartbeats 4000000 in
set_option maxRecDepth 100000 in
theorem A_X12_odds_169 (X : AX p s m args meth c D cA sa bs cX12_odds 11 RX12) (hr : meth.sig.returnType = (some .int)) (K30 : Int → Int → Int → (Nat → Nat → Int) → Option (Int × (Nat → Nat → Int))) (K51 : Int → Int → Int → Int → Int → Int → (Nat → Nat → Int) → Option (Int × (Nat → Nat → Int))) (hK30 : ∀ (v1 : Int) (c_v1 : Z_I v1) (v2 : Int) (c_v2 : Z_I v2) (v3 : Int) (c_v3 : Z_I v3) (σ : Nat → Nat → Int), K30 v1 v2 v3 σ = some q → AW p l e (ax_rm 6 0 0) s m args below meth c D cA ad bs 788 SHp 0 0 (ax_MQ below args s D cA ad bs 788 SHp 0 0 (some (z_i q.1)) (Z_I q.1) q.2) 11 30 [(0, .ref (ad 758)), (1, z_i v1), (2, z_i v2), (3, z_i v3)] [] σ) (hK51 : ∀ (v1 : Int) (c_v1 : Z_I v1) (v2 : Int) (c_v2 : Z_I v2) (v3 : Int) (c_v3 : Z_I v3) (v4 : Int) (c_v4 : Z_I v4) (v5 : Int) (c_v5 : Z_L v5) (v7 : Int) (c_v7 : Z_I v7) (σ : Nat → Nat → Int), K51 v1 v2 v3 v4 v5 v7 σ = some q → AW p l e (ax_rm 6 0 0) s m args below meth c D cA ad bs 788 SHp 0 0 (ax_MQ below args s D cA ad bs 788 SHp 0 0 (some (z_i q.1)) (Z_I q.1) q.2) 11 51 [(0, .ref (ad 758)), (1, z_i v1), (2, z_i v2), (3, z_i v3), (4, z_i v4), (5, z_v v5), (7, z_i v7)] [] σ) (v1 : Int) (c_v1 : Z_I v1) (v2 : Int) (c_v2 : Z_I v2) (v3 : Int) (c_v3 : Z_I v3) (v4 : Int) (c_v4 : Z_I v4) (v5 : Int) (c_v5 : Z_L v5) (v7 : Int) (c_v7 : Z_I v7) (t0 : Int) (c_t0 : Z_I t0) (t1 : Int) (c_t1 : Z_I t1) (b2 : Nat) (h_b2 : b2 < 788 ∧ SHp b2 = .inr (3, 4, [])) (σ : Nat → Nat → Int) (hf : f_X12_odds_169 K30 K51 v1 v2 v3 v4 v5 v7 t0 t1 b2 σ = some q) : AW p l e (ax_rm 6 0 0) s m args below meth c D cA ad bs 788 SHp 0 0 (ax_MQ below args s D cA ad bs 788 SHp 0 0 (some (z_i q.1)) (Z_I q.1) q.2) 11 169 [(0, .ref (ad 758)), (1, z_i v1), (2, z_i v2), (3, z_i v3), (4, z_i v4), (5, z_v v5), (7, z_i v7)] [z_i t0, z_i t1, .ref (ad b2)] σ := by
  unfold f_X12_odds_169 at hf
  obtain ⟨g35, hf⟩ := z_gd hf
  obtain ⟨g36, hf⟩ := z_gd hf
  refine aw_zast X (j := t1.toNat) h_b2 c_t1 g35.1 g35.2 rfl g36 dX12_odds_169 ?_
  refine aw_aload_n X 0 dX12_odds_170 rfl rfl ?_
  refine aw_getR X s_758 fX12_82 rfl dX12_odds_171 ?_
  refine aw_iload X 6 dX12_odds_174 rfl ?_
  refine aw_aload_n X 0 dX12_odds_176 rfl rfl ?_
  refine aw_getR X s_758 fX12_85 rfl dX12_odds_177 ?_
  refine aw_iload X 6 dX12_odds_180 rfl ?_
  obtain ⟨g37, hf⟩ := z_gd hf
  refine aw_zald X (j := v7.toNat) s_782 c_v7 g37.1 g37.2 rfl dX12_odds_182 (fun c38 => ?_)
  refine aw_if_eq X (tgt := 190) (z_zI c38) dX12_odds_183 (by decide) (fun h39 => ?_) (fun h39 => ?_)
  · rw [if_pos h39] at hf
    refine aw_aload_n X 0 dX12_odds_190 rfl rfl ?_
    refine aw_getR X s_758 fX12_35 rfl dX12_odds_191 ?_
    refine aw_iconst X dX12_odds_194 ?_
    refine aw_iload X 6 dX12_odds_195 rfl ?_
    refine aw_imul X dX12_odds_197 ?_
    obtain ⟨g40, hf⟩ := z_gd hf
    refine aw_iald X (j := (z_w (2 * v7)).toNat) s_767 (z_w_in _) g40.1 g40.2 rfl dX12_odds_198 (fun c41 => ?_)
    refine aw_aload_n X 0 dX12_odds_199 rfl rfl ?_
    refine aw_getR X s_758 fX12_35 rfl dX12_odds_200 ?_
    refine aw_iconst X dX12_odds_203 ?_
    refine aw_iload X 6 dX12_odds_204 rfl ?_
    refine aw_imul X dX12_odds_206 ?_
    refine aw_iconst X dX12_odds_207 ?_
    refine aw_iadd X dX12_odds_208 ?_
    obtain ⟨g42, hf⟩ := z_gd hf
    refine aw_iald X (j := (z_w ((z_w (2 * v7)) + 1)).toNat) s_767 (z_w_in _) g42.1 g42.2 rfl dX12_odds_209 (fun c43 => ?_)
    obtain ⟨q44, e45, hf⟩ := z_bd hf
    refine aw_callS X [z_i ((u2 σ b2 t1.toNat t0) 767 (z_w (2 * v7)).toNat), z_i ((u2 σ b2 t1.toNat t0) 767 (z_w ((z_w (2 * v7)) + 1)).toNat)] [z_i v7, .ref (ad 781)] [z_i q44, z_i v7, .ref (ad 781)] cX12_432 (C_X12_up l D cA sa ad bs ((u2 σ b2 t1.toNat t0) 767 (z_w (2 * v7)).toNat) c41 ((u2 σ b2 t1.toNat t0) 767 (z_w ((z_w (2 * v7)) + 1)).toNat) c43 (u2 σ b2 t1.toNat t0) q44 e45) rfl ⟨(Nat.le_of_ble_eq_true rfl), (Nat.le_of_ble_eq_true rfl), (Nat.le_of_ble_eq_true rfl), (Nat.le_of_ble_eq_true rfl)⟩ rfl (Nat.le_of_ble_eq_true rfl) rfl dX12_odds_210 (fun p46 => ?_)
    obtain ⟨g47, hf⟩ := z_gd hf
    refine aw_iast X (j := v7.toNat) s_781 c_v7 g47.1 g47.2 rfl p46 dX12_odds_213 ?_
    refine aw_iinc X 6 [(7, z_i (z_w (v7 + 1))), (0, .ref (ad 758)), (1, z_i v1), (2, z_i v2), (3, z_i v3), (4, z_i v4), (5, z_v v5)] dX12_odds_214 rfl (by decide) rfl ?_
    refine aw_goto X (tgt := 51) dX12_odds_217 (by decide) ?_
    refine aw_sub [1, 2, 3, 4, 5, 6, 0] rfl ?_
    exact hK51 v1 c_v1 v2 c_v2 v3 c_v3 v4 c_v4 v5 c_v5 (z_w (v7 + 1)) (z_w_in _) (u2 (u2 σ b2 t1.toNat t0) 781 v7.toNat q44) hf
  · rw [if_neg h39] at hf
    refine aw_iconst X dX12_odds_186 ?_
    refine aw_goto X (tgt := 213) dX12_odds_187 (by decide) ?_
    obtain ⟨g48, hf⟩ := z_gd hf
    refine aw_iast X (j := v7.toNat) s_781 c_v7 g48.1 g48.2 rfl (z_lit (x := 0) (by decide)) dX12_odds_213 ?_
    refine aw_iinc X 6 [(7, z_i (z_w (v7 + 1))), (0, .ref (ad 758)), (1, z_i v1), (2, z_i v2), (3, z_i v3), (4, z_i v4), (5, z_v v5)] dX12_odds_214 rfl (by decide) rfl ?_
    refine aw_goto X (tgt := 51) dX12_odds_217 (by decide) ?_
    refine aw_sub [1, 2, 3, 4, 5, 6, 0] rfl ?_
    exact hK51 v1 c_v1 v2 c_v2 v3 c_v3 v4 c_v4 v5 c_v5 (z_w (v7 + 1)) (z_w_in _) (u2 (u2 σ b2 t1.toNat t0) 781 v7.toNat 0) hf
set_option maxHeartbeats 4000000 in
set_option maxRecDepth 100000 in
theorem A_X12_odds_144 (X : AX p s m args meth c D cA sa bs cX12_odds 11 RX12) (hr : meth.sig.returnType = (some .int)) (K30 : Int → Int → Int → (Nat → Nat → Int) → Option (Int × (Nat → Nat → Int))) (K51 : Int → Int → Int → Int → Int → Int → (Nat → Nat → Int) → Option (Int × (Nat → Nat → Int))) (hK30 : ∀ (v1 : Int) (c_v1 : Z_I v1) (v2 : Int) (c_v2 : Z_I v2) (v3 : Int) (c_v3 : Z_I v3) (σ : Nat → Nat → Int), K30 v1 v2 v3 σ = some q → AW p l e (ax_rm 6 0 0) s m args below meth c D cA ad bs 788 SHp 0 0 (ax_MQ below args s D cA ad bs 788 SHp 0 0 (some (z_i q.1)) (Z_I q.1) q.2) 11 30 [(0, .ref (ad 758)), (1, z_i v1), (2, z_i v2), (3, z_i v3)] [] σ) (hK51 : ∀ (v1 : Int) (c_v1 : Z_I v1) (v2 : Int) (c_v2 : Z_I v2) (v3 : Int) (c_v3 : Z_I v3) (v4 : Int) (c_v4 : Z_I v4) (v5 : Int) (c_v5 : Z_L v5) (v7 : Int) (c_v7 : Z_I v7) (σ : Nat → Nat → Int), K51 v1 v2 v3 v4 v5 v7 σ = some q → AW p l e (ax_rm 6 0 0) s m args below meth c D cA ad bs 788 SHp 0 0 (ax_MQ below args s D cA ad bs 788 SHp 0 0 (some (z_i q.1)) (Z_I q.1) q.2) 11 51 [(0, .ref (ad 758)), (1, z_i v1), (2, z_i v2), (3, z_i v3), (4, z_i v4), (5, z_v v5), (7, z_i v7)] [] σ) (v1 : Int) (c_v1 : Z_I v1) (v2 : Int) (c_v2 : Z_I v2) (v3 : Int) (c_v3 : Z_I v3) (v4 : Int) (c_v4 : Z_I v4) (v5 : Int) (c_v5 : Z_L v5) (v7 : Int) (c_v7 : Z_I v7) (v8 : Int) (c_v8 : Z_I v8) (σ : Nat → Nat → Int) (hf : f_X12_odds_144 K30 K51 v1 v2 v3 v4 v5 v7 v8 σ = some q) : AW p l e (ax_rm 6 0 0) s m args below meth c D cA ad bs 788 SHp 0 0 (ax_MQ below args s D cA ad bs 788 SHp 0 0 (some (z_i q.1)) (Z_I q.1) q.2) 11 144 [(0, .ref (ad 758)), (1, z_i v1), (2, z_i v2), (3, z_i v3), (4, z_i v4), (5, z_v v5), (7, z_i v7), (8, z_i v8)] [] σ := by
  unfold f_X12_odds_144 at hf
  refine aw_aload_n X 0 dX12_odds_144 rfl rfl ?_
  refine aw_getR X s_758 fX12_85 rfl dX12_odds_145 ?_
  refine aw_iload X 6 dX12_odds_148 rfl ?_
  refine aw_iload X 7 dX12_odds_150 rfl ?_
  refine aw_if_ne X (tgt := 164) c_v8 dX12_odds_152 (by decide) (fun h30 => ?_) (fun h30 => ?_)
  · rw [if_neg h30] at hf
    refine aw_iconst X dX12_odds_164 ?_
    refine aw_goto X (tgt := 169) dX12_odds_165 (by decide) ?_
    refine aw_sub [0, 1, 2, 3, 4, 5, 6] rfl ?_
    exact A_X12_odds_169 X hr K30 K51 hK30 hK51 v1 c_v1 v2 c_v2 v3 c_v3 v4 c_v4 v5 c_v5 v7 c_v7 1 (z_lit (x := 1) (by decide)) v7 c_v7 782 s_782 σ hf
  · rw [if_pos h30] at hf
    refine aw_iload_n X 3 dX12_odds_155 rfl rfl ?_
    refine aw_iload X 6 dX12_odds_156 rfl ?_
    obtain ⟨q31, e32, hf⟩ := z_bd hf
    refine aw_callS X [z_i v3, z_i v7] [z_i v7, .ref (ad 782)] [z_i q31, z_i v7, .ref (ad 782)] cX12_188 (C_X12_has l D cA sa ad bs v3 c_v3 v7 c_v7 σ q31 e32) rfl ⟨(Nat.le_of_ble_eq_true rfl), (Nat.le_of_ble_eq_true rfl), (Nat.le_of_ble_eq_true rfl), (Nat.le_of_ble_eq_true rfl)⟩ rfl (Nat.le_of_ble_eq_true rfl) rfl dX12_odds_158 (fun p33 => ?_)
    refine aw_if_eq X (tgt := 168) (z_zI p33) dX12_odds_161 (by decide) (fun h34 => ?_) (fun h34 => ?_)
    · simp only [if_pos h34] at hf
      refine aw_iconst X dX12_odds_168 ?_
      refine aw_sub [0, 1, 2, 3, 4, 5, 6] rfl ?_
      exact A_X12_odds_169 X hr K30 K51 hK30 hK51 v1 c_v1 v2 c_v2 v3 c_v3 v4 c_v4 v5 c_v5 v7 c_v7 0 (z_lit (x := 0) (by decide)) v7 c_v7 782 s_782 σ hf
    · simp only [if_neg h34] at hf
      refine aw_iconst X dX12_odds_164 ?_
      refine aw_goto X (tgt := 169) dX12_odds_165 (by decide) ?_
      refine aw_sub [0, 1, 2, 3, 4, 5, 6] rfl ?_
      exact A_X12_odds_169 X hr K30 K51 hK30 hK51 v1 c_v1 v2 c_v2 v3 c_v3 v4 c_v4 v5 c_v5 v7 c_v7 1 (z_lit (x := 1) (by decide)) v7 c_v7 782 s_782 σ hf
set_option maxHeartbeats 4000000 in
set_option maxRecDepth 100000 in
theorem A_X12_odds_105 (X : AX p s m args meth c D cA sa bs cX12_odds 11 RX12) (hr : meth.sig.returnType = (some .int)) (K30 : Int → Int → Int → (Nat → Nat → Int) → Option (Int × (Nat → Nat → Int))) (K51 : Int → Int → Int → Int → Int → Int → (Nat → Nat → Int) → Option (Int × (Nat → Nat → Int))) (hK30 : ∀ (v1 : Int) (c_v1 : Z_I v1) (v2 : Int) (c_v2 : Z_I v2) (v3 : Int) (c_v3 : Z_I v3) (σ : Nat → Nat → Int), K30 v1 v2 v3 σ = some q → AW p l e (ax_rm 6 0 0) s m args below meth c D cA ad bs 788 SHp 0 0 (ax_MQ below args s D cA ad bs 788 SHp 0 0 (some (z_i q.1)) (Z_I q.1) q.2) 11 30 [(0, .ref (ad 758)), (1, z_i v1), (2, z_i v2), (3, z_i v3)] [] σ) (hK51 : ∀ (v1 : Int) (c_v1 : Z_I v1) (v2 : Int) (c_v2 : Z_I v2) (v3 : Int) (c_v3 : Z_I v3) (v4 : Int) (c_v4 : Z_I v4) (v5 : Int) (c_v5 : Z_L v5) (v7 : Int) (c_v7 : Z_I v7) (σ : Nat → Nat → Int), K51 v1 v2 v3 v4 v5 v7 σ = some q → AW p l e (ax_rm 6 0 0) s m args below meth c D cA ad bs 788 SHp 0 0 (ax_MQ below args s D cA ad bs 788 SHp 0 0 (some (z_i q.1)) (Z_I q.1) q.2) 11 51 [(0, .ref (ad 758)), (1, z_i v1), (2, z_i v2), (3, z_i v3), (4, z_i v4), (5, z_v v5), (7, z_i v7)] [] σ) (v1 : Int) (c_v1 : Z_I v1) (v2 : Int) (c_v2 : Z_I v2) (v3 : Int) (c_v3 : Z_I v3) (v5 : Int) (c_v5 : Z_L v5) (v7 : Int) (c_v7 : Z_I v7) (v8 : Int) (c_v8 : Z_I v8) (t0 : Int) (c_t0 : Z_I t0) (σ : Nat → Nat → Int) (hf : f_X12_odds_105 K30 K51 v1 v2 v3 v5 v7 v8 t0 σ = some q) : AW p l e (ax_rm 6 0 0) s m args below meth c D cA ad bs 788 SHp 0 0 (ax_MQ below args s D cA ad bs 788 SHp 0 0 (some (z_i q.1)) (Z_I q.1) q.2) 11 105 [(0, .ref (ad 758)), (1, z_i v1), (2, z_i v2), (3, z_i v3), (5, z_v v5), (7, z_i v7), (8, z_i v8)] [z_i t0] σ := by
  unfold f_X12_odds_105 at hf
  refine aw_istore X [(4, z_i t0), (0, .ref (ad 758)), (1, z_i v1), (2, z_i v2), (3, z_i v3), (5, z_v v5), (7, z_i v7), (8, z_i v8)] dX12_odds_105 (by decide) rfl ?_
  refine aw_lload X 5 dX12_odds_107 rfl ?_
  refine aw_iload_n X 2 dX12_odds_109 rfl rfl ?_
  refine aw_i2l X c_v1 dX12_odds_110 ?_
  refine aw_lmul X dX12_odds_111 ?_
  refine aw_ldc2 X (x := 100) dX12_odds_112 kX12_456 (by decide) ?_
  refine aw_ldiv X (z_l_in _) (z_litL (x := 100) (by decide)) (by decide) dX12_odds_115 ?_
  refine aw_lstore X [(9, z_v (z_l (Int.tdiv (z_l (v5 * v1)) 100))), (4, z_i t0), (0, .ref (ad 758)), (1, z_i v1), (2, z_i v2), (3, z_i v3), (5, z_v v5), (7, z_i v7), (8, z_i v8)] dX12_odds_116 (by decide) rfl ?_
  refine aw_iload X 8 dX12_odds_118 rfl ?_
  refine aw_if_ne X (tgt := 144) c_v8 dX12_odds_120 (by decide) (fun h25 => ?_) (fun h25 => ?_)
  · rw [if_neg h25] at hf
    refine aw_sub [2, 3, 4, 5, 1, 6, 7, 8] rfl ?_
    exact A_X12_odds_144 X hr K30 K51 hK30 hK51 v1 c_v1 v2 c_v2 v3 c_v3 t0 c_t0 v5 c_v5 v7 c_v7 v8 c_v8 σ hf
  · rw [if_pos h25] at hf
    refine aw_iload_n X 5 dX12_odds_123 rfl rfl ?_
    refine aw_iload X 7 dX12_odds_124 rfl ?_
    obtain ⟨q26, e27, hf⟩ := z_bd hf
    refine aw_callS X [z_i v3, z_i v7] [] [z_i q26] cX12_188 (C_X12_has l D cA sa ad bs v3 c_v3 v7 c_v7 σ q26 e27) rfl ⟨(Nat.le_of_ble_eq_true rfl), (Nat.le_of_ble_eq_true rfl), (Nat.le_of_ble_eq_true rfl), (Nat.le_of_ble_eq_true rfl)⟩ rfl (Nat.le_of_ble_eq_true rfl) rfl dX12_odds_126 (fun p28 => ?_)
    refine aw_if_eq X (tgt := 137) (z_zI p28) dX12_odds_129 (by decide) (fun h29 => ?_) (fun h29 => ?_)
    · simp only [if_pos h29] at hf
      refine aw_lload X 6 dX12_odds_137 rfl ?_
      refine aw_lload X 0 dX12_odds_139 rfl ?_
      refine aw_lsub X dX12_odds_141 ?_
      refine aw_lstore X [(5, z_v (z_l (v5 - (z_l (Int.tdiv (z_l (v5 * v1)) 100))))), (9, z_v (z_l (Int.tdiv (z_l (v5 * v1)) 100))), (4, z_i t0), (0, .ref (ad 758)), (1, z_i v1), (2, z_i v2), (3, z_i v3), (7, z_i v7), (8, z_i v8)] dX12_odds_142 (by decide) rfl ?_
      refine aw_sub [3, 4, 5, 6, 2, 0, 7, 8] rfl ?_
      exact A_X12_odds_144 X hr K30 K51 hK30 hK51 v1 c_v1 v2 c_v2 v3 c_v3 t0 c_t0 (z_l (v5 - (z_l (Int.tdiv (z_l (v5 * v1)) 100)))) (z_l_in _) v7 c_v7 v8 c_v8 σ hf
    · simp only [if_neg h29] at hf
      refine aw_lload X 0 dX12_odds_132 rfl ?_
      refine aw_goto X (tgt := 142) dX12_odds_134 (by decide) ?_
      refine aw_lstore X [(5, z_v (z_l (Int.tdiv (z_l (v5 * v1)) 100))), (9, z_v (z_l (Int.tdiv (z_l (v5 * v1)) 100))), (4, z_i t0), (0, .ref (ad 758)), (1, z_i v1), (2, z_i v2), (3, z_i v3), (7, z_i v7), (8, z_i v8)] dX12_odds_142 (by decide) rfl ?_
      refine aw_sub [3, 4, 5, 6, 2, 0, 7, 8] rfl ?_
      exact A_X12_odds_144 X hr K30 K51 hK30 hK51 v1 c_v1 v2 c_v2 v3 c_v3 t0 c_t0 (z_l (Int.tdiv (z_l (v5 * v1)) 100)) (z_l_in _) v7 c_v7 v8 c_v8 σ hf
set_option maxHeartbeats 4000000 in
set_option maxRecDepth 100000 in
theorem A_X12_odds_79 (X : AX p s m args meth c D cA sa bs cX12_odds 11 RX12) (hr : meth.sig.returnType = (some .int)) (K30 : Int → Int → Int → (Nat → Nat → Int) → Option (Int × (Nat → Nat → Int))) (K51 : Int → Int → Int → Int → Int → Int → (Nat → Nat → Int) → Option (Int × (Nat → Nat → Int))) (hK30 : ∀ (v1 : Int) (c_v1 : Z_I v1) (v2 : Int) (c_v2 : Z_I v2) (v3 : Int) (c_v3 : Z_I v3) (σ : Nat → Nat → Int), K30 v1 v2 v3 σ = some q → AW p l e (ax_rm 6 0 0) s m args below meth c D cA ad bs 788 SHp 0 0 (ax_MQ below args s D cA ad bs 788 SHp 0 0 (some (z_i q.1)) (Z_I q.1) q.2) 11 30 [(0, .ref (ad 758)), (1, z_i v1), (2, z_i v2), (3, z_i v3)] [] σ) (hK51 : ∀ (v1 : Int) (c_v1 : Z_I v1) (v2 : Int) (c_v2 : Z_I v2) (v3 : Int) (c_v3 : Z_I v3) (v4 : Int) (c_v4 : Z_I v4) (v5 : Int) (c_v5 : Z_L v5) (v7 : Int) (c_v7 : Z_I v7) (σ : Nat → Nat → Int), K51 v1 v2 v3 v4 v5 v7 σ = some q → AW p l e (ax_rm 6 0 0) s m args below meth c D cA ad bs 788 SHp 0 0 (ax_MQ below args s D cA ad bs 788 SHp 0 0 (some (z_i q.1)) (Z_I q.1) q.2) 11 51 [(0, .ref (ad 758)), (1, z_i v1), (2, z_i v2), (3, z_i v3), (4, z_i v4), (5, z_v v5), (7, z_i v7)] [] σ) (v1 : Int) (c_v1 : Z_I v1) (v2 : Int) (c_v2 : Z_I v2) (v3 : Int) (c_v3 : Z_I v3) (v4 : Int) (c_v4 : Z_I v4) (v5 : Int) (c_v5 : Z_L v5) (v7 : Int) (c_v7 : Z_I v7) (t0 : Int) (c_t0 : Z_I t0) (σ : Nat → Nat → Int) (hf : f_X12_odds_79 K30 K51 v1 v2 v3 v4 v5 v7 t0 σ = some q) : AW p l e (ax_rm 6 0 0) s m args below meth c D cA ad bs 788 SHp 0 0 (ax_MQ below args s D cA ad bs 788 SHp 0 0 (some (z_i q.1)) (Z_I q.1) q.2) 11 79 [(0, .ref (ad 758)), (1, z_i v1), (2, z_i v2), (3, z_i v3), (4, z_i v4), (5, z_v v5), (7, z_i v7)] [z_i t0] σ := by
  unfold f_X12_odds_79 at hf
  refine aw_istore X [(8, z_i t0), (0, .ref (ad 758)), (1, z_i v1), (2, z_i v2), (3, z_i v3), (4, z_i v4), (5, z_v v5), (7, z_i v7)] dX12_odds_79 (by decide) rfl ?_
  refine aw_iload X 5 dX12_odds_81 rfl ?_
  refine aw_if_eq X (tgt := 104) c_v4 dX12_odds_83 (by decide) (fun h19 => ?_) (fun h19 => ?_)
  · rw [if_pos h19] at hf
    refine aw_iconst X dX12_odds_104 ?_
    refine aw_sub [1, 2, 3, 4, 6, 7, 0] rfl ?_
    exact A_X12_odds_105 X hr K30 K51 hK30 hK51 v1 c_v1 v2 c_v2 v3 c_v3 v5 c_v5 v7 c_v7 t0 c_t0 0 (z_lit (x := 0) (by decide)) σ hf
  · rw [if_neg h19] at hf
    refine aw_iload X 0 dX12_odds_86 rfl ?_
    refine aw_if_eq X (tgt := 100) c_t0 dX12_odds_88 (by decide) (fun h20 => ?_) (fun h20 => ?_)
    · rw [if_pos h20] at hf
      refine aw_iconst X dX12_odds_100 ?_
      refine aw_goto X (tgt := 105) dX12_odds_101 (by decide) ?_
      refine aw_sub [1, 2, 3, 4, 6, 7, 0] rfl ?_
      exact A_X12_odds_105 X hr K30 K51 hK30 hK51 v1 c_v1 v2 c_v2 v3 c_v3 v5 c_v5 v7 c_v7 t0 c_t0 1 (z_lit (x := 1) (by decide)) σ hf
    · rw [if_neg h20] at hf
      refine aw_iload_n X 4 dX12_odds_91 rfl rfl ?_
      refine aw_iload X 7 dX12_odds_92 rfl ?_
      obtain ⟨q21, e22, hf⟩ := z_bd hf
      refine aw_callS X [z_i v3, z_i v7] [] [z_i q21] cX12_188 (C_X12_has l D cA sa ad bs v3 c_v3 v7 c_v7 σ q21 e22) rfl ⟨(Nat.le_of_ble_eq_true rfl), (Nat.le_of_ble_eq_true rfl), (Nat.le_of_ble_eq_true rfl), (Nat.le_of_ble_eq_true rfl)⟩ rfl (Nat.le_of_ble_eq_true rfl) rfl dX12_odds_94 (fun p23 => ?_)
      refine aw_if_ne X (tgt := 104) (z_zI p23) dX12_odds_97 (by decide) (fun h24 => ?_) (fun h24 => ?_)
      · simp only [if_neg h24] at hf
        refine aw_iconst X dX12_odds_104 ?_
        refine aw_sub [1, 2, 3, 4, 6, 7, 0] rfl ?_
        exact A_X12_odds_105 X hr K30 K51 hK30 hK51 v1 c_v1 v2 c_v2 v3 c_v3 v5 c_v5 v7 c_v7 t0 c_t0 0 (z_lit (x := 0) (by decide)) σ hf
      · simp only [if_pos h24] at hf
        refine aw_iconst X dX12_odds_100 ?_
        refine aw_goto X (tgt := 105) dX12_odds_101 (by decide) ?_
        refine aw_sub [1, 2, 3, 4, 6, 7, 0] rfl ?_
        exact A_X12_odds_105 X hr K30 K51 hK30 hK51 v1 c_v1 v2 c_v2 v3 c_v3 v5 c_v5 v7 c_v7 t0 c_t0 1 (z_lit (x := 1) (by decide)) σ hf
set_option maxHeartbeats 4000000 in
set_option maxRecDepth 100000 in
theorem A_X12_odds_51 (X : AX p s m args meth c D cA sa bs cX12_odds 11 RX12) (hr : meth.sig.returnType = (some .int)) (K30 : Int → Int → Int → (Nat → Nat → Int) → Option (Int × (Nat → Nat → Int))) (hK30 : ∀ (v1 : Int) (c_v1 : Z_I v1) (v2 : Int) (c_v2 : Z_I v2) (v3 : Int) (c_v3 : Z_I v3) (σ : Nat → Nat → Int), K30 v1 v2 v3 σ = some q → AW p l e (ax_rm 6 0 0) s m args below meth c D cA ad bs 788 SHp 0 0 (ax_MQ below args s D cA ad bs 788 SHp 0 0 (some (z_i q.1)) (Z_I q.1) q.2) 11 30 [(0, .ref (ad 758)), (1, z_i v1), (2, z_i v2), (3, z_i v3)] [] σ) : ∀ (k : Nat) (v1 : Int) (c_v1 : Z_I v1) (v2 : Int) (c_v2 : Z_I v2) (v3 : Int) (c_v3 : Z_I v3) (v4 : Int) (c_v4 : Z_I v4) (v5 : Int) (c_v5 : Z_L v5) (v7 : Int) (c_v7 : Z_I v7) (σ : Nat → Nat → Int), f_X12_odds_51 K30 k v1 v2 v3 v4 v5 v7 σ = some q → AW p l e (ax_rm 6 0 0) s m args below meth c D cA ad bs 788 SHp 0 0 (ax_MQ below args s D cA ad bs 788 SHp 0 0 (some (z_i q.1)) (Z_I q.1) q.2) 11 51 [(0, .ref (ad 758)), (1, z_i v1), (2, z_i v2), (3, z_i v3), (4, z_i v4), (5, z_v v5), (7, z_i v7)] [] σ := by
  intro k
  induction k with
  | zero =>
    intro v1 c_v1 v2 c_v2 v3 c_v3 v4 c_v4 v5 c_v5 v7 c_v7 σ hf
    unfold f_X12_odds_51 at hf
    cases hf
  | succ k ih =>
    intro v1 c_v1 v2 c_v2 v3 c_v3 v4 c_v4 v5 c_v5 v7 c_v7 σ hf
    unfold f_X12_odds_51 at hf
    refine aw_iload X 6 dX12_odds_51 rfl ?_
    refine aw_aload_n X 0 dX12_odds_53 rfl rfl ?_
    refine aw_getI X s_758 fX12_237 rfl dX12_odds_54 (fun c9 => ?_)
    refine aw_icmp_ge X (tgt := 220) c_v7 c9 dX12_odds_57 (by decide) (fun h10 => ?_) (fun h10 => ?_)
    · rw [if_pos h10] at hf
      refine aw_iload X 4 dX12_odds_220 rfl ?_
      refine aw_if_eq X (tgt := 243) c_v4 dX12_odds_222 (by decide) (fun h11 => ?_) (fun h11 => ?_)
      · rw [if_pos h11] at hf
        refine aw_iinc X 3 [(3, z_i (z_w (v3 + 1))), (0, .ref (ad 758)), (1, z_i v1), (2, z_i v2), (4, z_i v4), (5, z_v v5), (7, z_i v7)] dX12_odds_243 rfl (by decide) rfl ?_
        refine aw_goto X (tgt := 30) dX12_odds_246 (by decide) ?_
        refine aw_sub [1, 2, 3, 0] rfl ?_
        exact hK30 v1 c_v1 v2 c_v2 (z_w (v3 + 1)) (z_w_in _) σ hf
      · rw [if_neg h11] at hf
        refine aw_aload_n X 0 dX12_odds_225 rfl rfl ?_
        refine aw_aload_n X 0 dX12_odds_226 rfl rfl ?_
        refine aw_getR X s_758 fX12_63 rfl dX12_odds_227 ?_
        obtain ⟨q12, e13, hf⟩ := z_bd hf
        refine aw_callV X [.ref (ad 776)] [] [z_i q12.1] cX12_367 s_758 ciX12 (C_X12_bestWay l D cA sa ad bs 776 s_776 σ q12 e13) rfl ⟨(Nat.le_of_ble_eq_true rfl), (Nat.le_of_ble_eq_true rfl), (Nat.le_of_ble_eq_true rfl), (Nat.le_of_ble_eq_true rfl)⟩ rfl (Nat.le_of_ble_eq_true rfl) rfl dX12_odds_230 (fun p14 => ?_)
        refine aw_iconst X dX12_odds_233 ?_
        refine aw_icmp_eq X (tgt := 243) p14 (z_lit (x := (-1)) (by decide)) dX12_odds_234 (by decide) (fun h15 => ?_) (fun h15 => ?_)
        · simp only [if_pos h15] at hf
          refine aw_iinc X 3 [(3, z_i (z_w (v3 + 1))), (0, .ref (ad 758)), (1, z_i v1), (2, z_i v2), (4, z_i v4), (5, z_v v5), (7, z_i v7)] dX12_odds_243 rfl (by decide) rfl ?_
          refine aw_goto X (tgt := 30) dX12_odds_246 (by decide) ?_
          refine aw_sub [1, 2, 3, 0] rfl ?_
          exact hK30 v1 c_v1 v2 c_v2 (z_w (v3 + 1)) (z_w_in _) q12.2 hf
        · simp only [if_neg h15] at hf
          refine aw_iload_n X 2 dX12_odds_237 rfl rfl ?_
          refine aw_lload X 5 dX12_odds_238 rfl ?_
          refine aw_l2i X dX12_odds_240 ?_
          refine aw_iadd X dX12_odds_241 ?_
          refine aw_istore_n X [(2, z_i (z_w (v2 + (z_w v5)))), (0, .ref (ad 758)), (1, z_i v1), (3, z_i v3), (4, z_i v4), (5, z_v v5), (7, z_i v7)] dX12_odds_242 rfl (by decide) rfl ?_
          refine aw_iinc X 3 [(3, z_i (z_w (v3 + 1))), (2, z_i (z_w (v2 + (z_w v5)))), (0, .ref (ad 758)), (1, z_i v1), (4, z_i v4), (5, z_v v5), (7, z_i v7)] dX12_odds_243 rfl (by decide) rfl ?_
          refine aw_goto X (tgt := 30) dX12_odds_246 (by decide) ?_
          refine aw_sub [2, 3, 1, 0] rfl ?_
          exact hK30 v1 c_v1 (z_w (v2 + (z_w v5))) (z_w_in _) (z_w (v3 + 1)) (z_w_in _) q12.2 hf
    · rw [if_neg h10] at hf
      refine aw_aload_n X 0 dX12_odds_60 rfl rfl ?_
      refine aw_getR X s_758 fX12_63 rfl dX12_odds_61 ?_
      refine aw_bipush X dX12_odds_64 (by decide) ?_
      refine aw_iload X 6 dX12_odds_66 rfl ?_
      refine aw_iadd X dX12_odds_68 ?_
      obtain ⟨g16, hf⟩ := z_gd hf
      refine aw_iald X (j := (z_w (37 + v7)).toNat) s_776 (z_w_in _) g16.1 g16.2 rfl dX12_odds_69 (fun c17 => ?_)
      refine aw_iconst X dX12_odds_70 ?_
      refine aw_icmp_ne X (tgt := 78) c17 (z_lit (x := 1) (by decide)) dX12_odds_71 (by decide) (fun h18 => ?_) (fun h18 => ?_)
      · simp only [if_neg h18] at hf
        refine aw_iconst X dX12_odds_78 ?_
        exact A_X12_odds_79 X hr K30 (f_X12_odds_51 K30 k) hK30 ih v1 c_v1 v2 c_v2 v3 c_v3 v4 c_v4 v5 c_v5 v7 c_v7 0 (z_lit (x := 0) (by decide)) σ hf
      · simp only [if_pos h18] at hf
        refine aw_iconst X dX12_odds_74 ?_
        refine aw_goto X (tgt := 79) dX12_odds_75 (by decide) ?_
        exact A_X12_odds_79 X hr K30 (f_X12_odds_51 K30 k) hK30 ih v1 c_v1 v2 c_v2 v3 c_v3 v4 c_v4 v5 c_v5 v7 c_v7 1 (z_lit (x := 1) (by decide)) σ hf
set_option maxHeartbeats 4000000 in
set_option maxRecDepth 100000 in
theorem A_X12_odds_30 (X : AX p s m args meth c D cA sa bs cX12_odds 11 RX12) (hr : meth.sig.returnType = (some .int)) : ∀ (k : Nat) (v1 : Int) (c_v1 : Z_I v1) (v2 : Int) (c_v2 : Z_I v2) (v3 : Int) (c_v3 : Z_I v3) (σ : Nat → Nat → Int), f_X12_odds_30 k v1 v2 v3 σ = some q → AW p l e (ax_rm 6 0 0) s m args below meth c D cA ad bs 788 SHp 0 0 (ax_MQ below args s D cA ad bs 788 SHp 0 0 (some (z_i q.1)) (Z_I q.1) q.2) 11 30 [(0, .ref (ad 758)), (1, z_i v1), (2, z_i v2), (3, z_i v3)] [] σ := by
  intro k
  induction k with
  | zero =>
    intro v1 c_v1 v2 c_v2 v3 c_v3 σ hf
    unfold f_X12_odds_30 at hf
    cases hf
  | succ k ih =>
    intro v1 c_v1 v2 c_v2 v3 c_v3 σ hf
    unfold f_X12_odds_30 at hf
    refine aw_iload_n X 3 dX12_odds_30 rfl rfl ?_
    refine aw_iconst X dX12_odds_31 ?_
    refine aw_aload_n X 0 dX12_odds_32 rfl rfl ?_
    refine aw_getI X s_758 fX12_237 rfl dX12_odds_33 (fun c7 => ?_)
    refine aw_ishl X dX12_odds_36 ?_
    refine aw_icmp_ge X (tgt := 249) c_v3 (z_shl_in _ _) dX12_odds_37 (by decide) (fun h8 => ?_) (fun h8 => ?_)
    · rw [if_pos h8] at hf
      refine aw_iload_n X 2 dX12_odds_249 rfl rfl ?_
      obtain rfl := Option.some.inj hf
      exact aw_iret X c_v2 hr rfl dX12_odds_250
    · rw [if_neg h8] at hf
      refine aw_iconst X dX12_odds_40 ?_
      refine aw_istore X [(4, z_i 1), (0, .ref (ad 758)), (1, z_i v1), (2, z_i v2), (3, z_i v3)] dX12_odds_41 (by decide) rfl ?_
      refine aw_ldc2 X (x := 1000000000) dX12_odds_43 kX12_458 (by decide) ?_
      refine aw_lstore X [(5, z_v 1000000000), (4, z_i 1), (0, .ref (ad 758)), (1, z_i v1), (2, z_i v2), (3, z_i v3)] dX12_odds_46 (by decide) rfl ?_
      refine aw_iconst X dX12_odds_48 ?_
      refine aw_istore X [(7, z_i 0), (5, z_v 1000000000), (4, z_i 1), (0, .ref (ad 758)), (1, z_i v1), (2, z_i v2), (3, z_i v3)] dX12_odds_49 (by decide) rfl ?_
      refine aw_sub [3, 4, 5, 6, 2, 1, 0] rfl ?_
      exact A_X12_odds_51 X hr (f_X12_odds_30 k) ih 100000 v1 c_v1 v2 c_v2 v3 c_v3 1 (z_lit (x := 1) (by decide)) 1000000000 (z_litL (x := 1000000000) (by decide)) 0 (z_lit (x := 0) (by decide)) σ hf
end S_X12_odds
set_option maxHeartbeats 4000000 in
set_option maxRecDepth 100000 in
theorem C_X12_odds (l : Launch) (D : va_G) (cA : Nat → ClassId) (sa ad : Nat → Nat) (bs : Nat) (v1 : Int) (c_v1 : Z_I v1) (σ : Nat → Nat → Int) (q : (Int × (Nat → Nat → Int))) (hf : f_X12_odds v1 σ = some q) : AM l D cA sa ad bs 788 SHp yX12_odds cX12_odds 11 (some .int) 6 [.ref (ad 758), z_i v1] σ (some (z_i q.1)) (Z_I q.1) q.2 := by
  refine am_of (by decide +kernel) (Nat.le_of_ble_eq_true rfl) (fun p e s m args below meth c X hr => ?_)
  refine aw_lv (lv' := [(0, .ref (ad 758)), (1, z_i v1)]) rfl ?_
  unfold f_X12_odds at hf
  refine aw_aload_n X 0 dX12_odds_0 rfl rfl ?_
  refine aw_iconst X dX12_odds_1 ?_
  refine aw_putI X s_758 pX12_101 rfl (z_lit (x := 0) (by decide)) dX12_odds_2 ?_
  refine aw_aload_n X 0 dX12_odds_5 rfl rfl ?_
  refine aw_getI X s_758 fX12_234 rfl dX12_odds_6 (fun c1 => ?_)
  refine aw_if_eq X (tgt := 24) c1 dX12_odds_9 (by decide) (fun h2 => ?_) (fun h2 => ?_)
  · rw [if_pos h2] at hf
    refine aw_iconst X dX12_odds_24 ?_
    obtain rfl := Option.some.inj hf
    exact aw_iret X (z_lit (x := (-1)) (by decide)) hr rfl dX12_odds_25
  · rw [if_neg h2] at hf
    refine aw_iload_n X 1 dX12_odds_12 rfl rfl ?_
    refine aw_i2l X c_v1 dX12_odds_13 ?_
    refine aw_lconst X (x := 0) dX12_odds_14 (by decide) ?_
    refine aw_ldc2 X (x := 100) dX12_odds_15 kX12_456 (by decide) ?_
    obtain ⟨q3, e4, hf⟩ := z_bd hf
    refine aw_callS X [z_v v1, z_v 0, z_v 100] [] [z_i q3] cX12_156 (C_X12_isIn l D cA sa ad bs v1 (z_IL c_v1) 0 (z_litL (x := 0) (by decide)) 100 (z_litL (x := 100) (by decide)) (u2 σ 758 0 0) q3 e4) rfl ⟨(Nat.le_of_ble_eq_true rfl), (Nat.le_of_ble_eq_true rfl), (Nat.le_of_ble_eq_true rfl), (Nat.le_of_ble_eq_true rfl)⟩ rfl (Nat.le_of_ble_eq_true rfl) rfl dX12_odds_18 (fun p5 => ?_)
    refine aw_if_ne X (tgt := 26) (z_zI p5) dX12_odds_21 (by decide) (fun h6 => ?_) (fun h6 => ?_)
    · rw [if_neg h6] at hf
      refine aw_iconst X dX12_odds_26 ?_
      refine aw_istore_n X [(2, z_i 0), (0, .ref (ad 758)), (1, z_i v1)] dX12_odds_27 rfl (by decide) rfl ?_
      refine aw_iconst X dX12_odds_28 ?_
      refine aw_istore_n X [(3, z_i 0), (2, z_i 0), (0, .ref (ad 758)), (1, z_i v1)] dX12_odds_29 rfl (by decide) rfl ?_
      refine aw_sub [2, 3, 1, 0] rfl ?_
      exact A_X12_odds_30 X hr 100000 v1 c_v1 0 (z_lit (x := 0) (by decide)) 0 (z_lit (x := 0) (by decide)) (u2 σ 758 0 0) hf
    · rw [if_pos h6] at hf
      refine aw_iconst X dX12_odds_24 ?_
      obtain rfl := Option.some.inj hf
      exact aw_iret X (z_lit (x := (-1)) (by decide)) hr rfl dX12_odds_25
-- SpeedDeskModel.rule(I)I
section S_X12_rule
variable {p : Program} {l : Launch} {e : Env} {s : State} {m : MethodId} {args : Array Value} {below : List Frame} {meth : Method} {c : Code} {D : va_G} {cA : Nat → ClassId} {sa ad : Nat → Nat} {bs : Nat} {q : (Int × (Nat → Nat → Int))}

end S_X12_rule
set_option maxHeartbeats 4000000 in
set_option maxRecDepth 100000 in
theorem C_X12_rule (l : Launch) (D : va_G) (cA : Nat → ClassId) (sa ad : Nat → Nat) (bs : Nat) (v1 : Int) (c_v1 : Z_I v1) (σ : Nat → Nat → Int) (q : (Int × (Nat → Nat → Int))) (hf : f_X12_rule v1 σ = some q) : AM l D cA sa ad bs 788 SHp yX12_rule cX12_rule 2 (some .int) 1 [.ref (ad 758), z_i v1] σ (some (z_i q.1)) (Z_I q.1) q.2 := by
  refine am_of (by decide +kernel) (Nat.le_of_ble_eq_true rfl) (fun p e s m args below meth c X hr => ?_)
  refine aw_lv (lv' := [(0, .ref (ad 758)), (1, z_i v1)]) rfl ?_
  unfold f_X12_rule at hf
  refine aw_aload_n X 0 dX12_rule_0 rfl rfl ?_
  refine aw_iconst X dX12_rule_1 ?_
  refine aw_putI X s_758 pX12_101 rfl (z_lit (x := 0) (by decide)) dX12_rule_2 ?_
  refine aw_aload_n X 0 dX12_rule_5 rfl rfl ?_
  refine aw_getI X s_758 fX12_234 rfl dX12_rule_6 (fun c1 => ?_)
  refine aw_if_eq X (tgt := 24) c1 dX12_rule_9 (by decide) (fun h2 => ?_) (fun h2 => ?_)
  · rw [if_pos h2] at hf
    refine aw_iconst X dX12_rule_24 ?_
    obtain rfl := Option.some.inj hf
    exact aw_iret X (z_lit (x := (-1)) (by decide)) hr rfl dX12_rule_25
  · rw [if_neg h2] at hf
    refine aw_iload_n X 1 dX12_rule_12 rfl rfl ?_
    refine aw_i2l X c_v1 dX12_rule_13 ?_
    refine aw_lconst X (x := 0) dX12_rule_14 (by decide) ?_
    refine aw_ldc2 X (x := 7) dX12_rule_15 kX12_460 (by decide) ?_
    obtain ⟨q3, e4, hf⟩ := z_bd hf
    refine aw_callS X [z_v v1, z_v 0, z_v 7] [] [z_i q3] cX12_156 (C_X12_isIn l D cA sa ad bs v1 (z_IL c_v1) 0 (z_litL (x := 0) (by decide)) 7 (z_litL (x := 7) (by decide)) (u2 σ 758 0 0) q3 e4) rfl ⟨(Nat.le_of_ble_eq_true rfl), (Nat.le_of_ble_eq_true rfl), (Nat.le_of_ble_eq_true rfl), (Nat.le_of_ble_eq_true rfl)⟩ rfl (Nat.le_of_ble_eq_true rfl) rfl dX12_rule_18 (fun p5 => ?_)
    refine aw_if_ne X (tgt := 26) (z_zI p5) dX12_rule_21 (by decide) (fun h6 => ?_) (fun h6 => ?_)
    · rw [if_neg h6] at hf
      refine aw_iload_n X 1 dX12_rule_26 rfl rfl ?_
      refine aw_bipush X dX12_rule_27 (by decide) ?_
      refine aw_icmp_ne X (tgt := 39) c_v1 (z_lit (x := 6) (by decide)) dX12_rule_29 (by decide) (fun h7 => ?_) (fun h7 => ?_)
      · rw [if_neg h7] at hf
        refine aw_iload_n X 1 dX12_rule_39 rfl rfl ?_
        refine aw_bipush X dX12_rule_40 (by decide) ?_
        refine aw_icmp_ne X (tgt := 52) c_v1 (z_lit (x := 7) (by decide)) dX12_rule_42 (by decide) (fun h8 => ?_) (fun h8 => ?_)
        · rw [if_neg h8] at hf
          refine aw_aload_n X 0 dX12_rule_52 rfl rfl ?_
          refine aw_getR X s_758 fX12_17 rfl dX12_rule_53 ?_
          refine aw_iload_n X 1 dX12_rule_56 rfl rfl ?_
          obtain ⟨g9, hf⟩ := z_gd hf
          refine aw_iald X (j := v1.toNat) s_761 c_v1 g9.1 g9.2 rfl dX12_rule_57 (fun c10 => ?_)
          obtain rfl := Option.some.inj hf
          exact aw_iret X c10 hr rfl dX12_rule_58
        · rw [if_pos h8] at hf
          refine aw_aload_n X 0 dX12_rule_45 rfl rfl ?_
          refine aw_getI X s_758 fX12_240 rfl dX12_rule_46 (fun c11 => ?_)
          refine aw_goto X (tgt := 58) dX12_rule_49 (by decide) ?_
          obtain rfl := Option.some.inj hf
          exact aw_iret X c11 hr rfl dX12_rule_58
      · rw [if_pos h7] at hf
        refine aw_aload_n X 0 dX12_rule_32 rfl rfl ?_
        refine aw_getI X s_758 fX12_243 rfl dX12_rule_33 (fun c12 => ?_)
        refine aw_goto X (tgt := 58) dX12_rule_36 (by decide) ?_
        obtain rfl := Option.some.inj hf
        exact aw_iret X c12 hr rfl dX12_rule_58
    · rw [if_pos h6] at hf
      refine aw_iconst X dX12_rule_24 ?_
      obtain rfl := Option.some.inj hf
      exact aw_iret X (z_lit (x := (-1)) (by decide)) hr rfl dX12_rule_25
-- SpeedDeskModel.cluster(II)I
section S_X12_cluster
variable {p : Program} {l : Launch} {e : Env} {s : State} {m : MethodId} {args : Array Value} {below : List Frame} {meth : Method} {c : Code} {D : va_G} {cA : Nat → ClassId} {sa ad : Nat → Nat} {bs : Nat} {q : (Int × (Nat → Nat → Int))}
set_option maxHeartbeats 4000000 in
set_option maxRecDepth 100000 in
theorem A_X12_cluster_88 (X : AX p s m args meth c D cA sa bs cX12_cluster 3 RX12) (hr : meth.sig.returnType = (some .int)) (v1 : Int) (c_v1 : Z_I v1) (v2 : Int) (c_v2 : Z_I v2) (σ : Nat → Nat → Int) (hf : f_X12_cluster_88 v1 v2 σ = some q) : AW p l e (ax_rm 3 0 0) s m args below meth c D cA ad bs 788 SHp 0 0 (ax_MQ below args s D cA ad bs 788 SHp 0 0 (some (z_i q.1)) (Z_I q.1) q.2) 3 88 [(0, .ref (ad 758)), (1, z_i v1), (2, z_i v2)] [] σ := by
  unfold f_X12_cluster_88 at hf
  refine aw_aload_n X 0 dX12_cluster_88 rfl rfl ?_
  refine aw_getR X s_758 fX12_23 rfl dX12_cluster_89 ?_
  refine aw_iconst X dX12_cluster_92 ?_
  refine aw_iload_n X 1 dX12_cluster_93 rfl rfl ?_
  refine aw_imul X dX12_cluster_94 ?_
  refine aw_iload_n X 2 dX12_cluster_95 rfl rfl ?_
  refine aw_iadd X dX12_cluster_96 ?_
  obtain ⟨g37, hf⟩ := z_gd hf
  refine aw_iald X (j := (z_w ((z_w (4 * v1)) + v2)).toNat) s_763 (z_w_in _) g37.1 g37.2 rfl dX12_cluster_97 (fun c38 => ?_)
  obtain rfl := Option.some.inj hf
  exact aw_iret X c38 hr rfl dX12_cluster_98
end S_X12_cluster
set_option maxHeartbeats 4000000 in
set_option maxRecDepth 100000 in
theorem C_X12_cluster (l : Launch) (D : va_G) (cA : Nat → ClassId) (sa ad : Nat → Nat) (bs : Nat) (v1 : Int) (c_v1 : Z_I v1) (v2 : Int) (c_v2 : Z_I v2) (σ : Nat → Nat → Int) (q : (Int × (Nat → Nat → Int))) (hf : f_X12_cluster v1 v2 σ = some q) : AM l D cA sa ad bs 788 SHp yX12_cluster cX12_cluster 3 (some .int) 3 [.ref (ad 758), z_i v1, z_i v2] σ (some (z_i q.1)) (Z_I q.1) q.2 := by
  refine am_of (by decide +kernel) (Nat.le_of_ble_eq_true rfl) (fun p e s m args below meth c X hr => ?_)
  refine aw_lv (lv' := [(0, .ref (ad 758)), (1, z_i v1), (2, z_i v2)]) rfl ?_
  unfold f_X12_cluster at hf
  refine aw_aload_n X 0 dX12_cluster_0 rfl rfl ?_
  refine aw_iconst X dX12_cluster_1 ?_
  refine aw_putI X s_758 pX12_101 rfl (z_lit (x := 0) (by decide)) dX12_cluster_2 ?_
  refine aw_aload_n X 0 dX12_cluster_5 rfl rfl ?_
  refine aw_iload_n X 1 dX12_cluster_6 rfl rfl ?_
  obtain ⟨q1, e2, hf⟩ := z_bd hf
  refine aw_callV X [z_i v1] [] [z_i q1] cX12_350 s_758 ciX12 (C_X12_isCluster l D cA sa ad bs v1 c_v1 (u2 σ 758 0 0) q1 e2) rfl ⟨(Nat.le_of_ble_eq_true rfl), (Nat.le_of_ble_eq_true rfl), (Nat.le_of_ble_eq_true rfl), (Nat.le_of_ble_eq_true rfl)⟩ rfl (Nat.le_of_ble_eq_true rfl) rfl dX12_cluster_7 (fun p3 => ?_)
  refine aw_if_eq X (tgt := 25) (z_zI p3) dX12_cluster_10 (by decide) (fun h4 => ?_) (fun h4 => ?_)
  · rw [if_pos h4] at hf
    refine aw_aload_n X 0 dX12_cluster_25 rfl rfl ?_
    refine aw_iconst X dX12_cluster_26 ?_
    refine aw_putI X s_758 pX12_101 rfl (z_lit (x := 1) (by decide)) dX12_cluster_27 ?_
    refine aw_iconst X dX12_cluster_30 ?_
    obtain rfl := Option.some.inj hf
    exact aw_iret X (z_lit (x := 0) (by decide)) hr rfl dX12_cluster_31
  · rw [if_neg h4] at hf
    refine aw_iload_n X 2 dX12_cluster_13 rfl rfl ?_
    refine aw_i2l X c_v2 dX12_cluster_14 ?_
    refine aw_lconst X (x := 0) dX12_cluster_15 (by decide) ?_
    refine aw_ldc2 X (x := 10) dX12_cluster_16 kX12_462 (by decide) ?_
    obtain ⟨q5, e6, hf⟩ := z_bd hf
    refine aw_callS X [z_v v2, z_v 0, z_v 10] [] [z_i q5] cX12_156 (C_X12_isIn l D cA sa ad bs v2 (z_IL c_v2) 0 (z_litL (x := 0) (by decide)) 10 (z_litL (x := 10) (by decide)) (u2 σ 758 0 0) q5 e6) rfl ⟨(Nat.le_of_ble_eq_true rfl), (Nat.le_of_ble_eq_true rfl), (Nat.le_of_ble_eq_true rfl), (Nat.le_of_ble_eq_true rfl)⟩ rfl (Nat.le_of_ble_eq_true rfl) rfl dX12_cluster_19 (fun p7 => ?_)
    refine aw_if_ne X (tgt := 32) (z_zI p7) dX12_cluster_22 (by decide) (fun h8 => ?_) (fun h8 => ?_)
    · rw [if_neg h8] at hf
      refine aw_iload_n X 2 dX12_cluster_32 rfl rfl ?_
      by_cases h9 : v2 = 0
      · rw [if_pos h9] at hf
        refine aw_tabIn X (tgt := 88) c_v2 dX12_cluster_33 (by omega) (by omega) (by rw [h9]; rfl) (by decide) ?_
        exact A_X12_cluster_88 X hr v1 c_v1 v2 c_v2 (u2 σ 758 0 0) hf
      rw [if_neg h9] at hf
      by_cases h10 : v2 = 1
      · rw [if_pos h10] at hf
        refine aw_tabIn X (tgt := 88) c_v2 dX12_cluster_33 (by omega) (by omega) (by rw [h10]; rfl) (by decide) ?_
        exact A_X12_cluster_88 X hr v1 c_v1 v2 c_v2 (u2 σ 758 0 0) hf
      rw [if_neg h10] at hf
      by_cases h11 : v2 = 2
      · rw [if_pos h11] at hf
        refine aw_tabIn X (tgt := 88) c_v2 dX12_cluster_33 (by omega) (by omega) (by rw [h11]; rfl) (by decide) ?_
        exact A_X12_cluster_88 X hr v1 c_v1 v2 c_v2 (u2 σ 758 0 0) hf
      rw [if_neg h11] at hf
      by_cases h12 : v2 = 3
      · rw [if_pos h12] at hf
        refine aw_tabIn X (tgt := 88) c_v2 dX12_cluster_33 (by omega) (by omega) (by rw [h12]; rfl) (by decide) ?_
        exact A_X12_cluster_88 X hr v1 c_v1 v2 c_v2 (u2 σ 758 0 0) hf
      rw [if_neg h12] at hf
      by_cases h13 : v2 = 4
      · rw [if_pos h13] at hf
        refine aw_tabIn X (tgt := 99) c_v2 dX12_cluster_33 (by omega) (by omega) (by rw [h13]; rfl) (by decide) ?_
        refine aw_aload_n X 0 dX12_cluster_99 rfl rfl ?_
        refine aw_getR X s_758 fX12_63 rfl dX12_cluster_100 ?_
        refine aw_iconst X dX12_cluster_103 ?_
        refine aw_iload_n X 1 dX12_cluster_104 rfl rfl ?_
        refine aw_iadd X dX12_cluster_105 ?_
        obtain ⟨g14, hf⟩ := z_gd hf
        refine aw_iald X (j := (z_w (0 + v1)).toNat) s_776 (z_w_in _) g14.1 g14.2 rfl dX12_cluster_106 (fun c15 => ?_)
        obtain rfl := Option.some.inj hf
        exact aw_iret X c15 hr rfl dX12_cluster_107
      rw [if_neg h13] at hf
      by_cases h16 : v2 = 5
      · rw [if_pos h16] at hf
        refine aw_tabIn X (tgt := 108) c_v2 dX12_cluster_33 (by omega) (by omega) (by rw [h16]; rfl) (by decide) ?_
        refine aw_aload_n X 0 dX12_cluster_108 rfl rfl ?_
        refine aw_getR X s_758 fX12_63 rfl dX12_cluster_109 ?_
        refine aw_iconst X dX12_cluster_112 ?_
        refine aw_iload_n X 1 dX12_cluster_113 rfl rfl ?_
        refine aw_iadd X dX12_cluster_114 ?_
        obtain ⟨g17, hf⟩ := z_gd hf
        refine aw_iald X (j := (z_w (3 + v1)).toNat) s_776 (z_w_in _) g17.1 g17.2 rfl dX12_cluster_115 (fun c18 => ?_)
        obtain rfl := Option.some.inj hf
        exact aw_iret X c18 hr rfl dX12_cluster_116
      rw [if_neg h16] at hf
      by_cases h19 : v2 = 6
      · rw [if_pos h19] at hf
        refine aw_tabIn X (tgt := 117) c_v2 dX12_cluster_33 (by omega) (by omega) (by rw [h19]; rfl) (by decide) ?_
        refine aw_aload_n X 0 dX12_cluster_117 rfl rfl ?_
        refine aw_getR X s_758 fX12_63 rfl dX12_cluster_118 ?_
        refine aw_bipush X dX12_cluster_121 (by decide) ?_
        refine aw_iload_n X 1 dX12_cluster_123 rfl rfl ?_
        refine aw_iadd X dX12_cluster_124 ?_
        obtain ⟨g20, hf⟩ := z_gd hf
        refine aw_iald X (j := (z_w (6 + v1)).toNat) s_776 (z_w_in _) g20.1 g20.2 rfl dX12_cluster_125 (fun c21 => ?_)
        obtain rfl := Option.some.inj hf
        exact aw_iret X c21 hr rfl dX12_cluster_126
      rw [if_neg h19] at hf
      by_cases h22 : v2 = 7
      · rw [if_pos h22] at hf
        refine aw_tabIn X (tgt := 127) c_v2 dX12_cluster_33 (by omega) (by omega) (by rw [h22]; rfl) (by decide) ?_
        refine aw_aload_n X 0 dX12_cluster_127 rfl rfl ?_
        refine aw_aload_n X 0 dX12_cluster_128 rfl rfl ?_
        refine aw_getR X s_758 fX12_63 rfl dX12_cluster_129 ?_
        refine aw_iload_n X 1 dX12_cluster_132 rfl rfl ?_
        obtain ⟨q23, e24, hf⟩ := z_bd hf
        refine aw_callV X [.ref (ad 776), z_i v1] [] [z_i q23] cX12_273 s_758 ciX12 (C_X12_lowOf l D cA sa ad bs 776 s_776 v1 c_v1 (u2 σ 758 0 0) q23 e24) rfl ⟨(Nat.le_of_ble_eq_true rfl), (Nat.le_of_ble_eq_true rfl), (Nat.le_of_ble_eq_true rfl), (Nat.le_of_ble_eq_true rfl)⟩ rfl (Nat.le_of_ble_eq_true rfl) rfl dX12_cluster_133 (fun p25 => ?_)
        obtain rfl := Option.some.inj hf
        exact aw_iret X p25 hr rfl dX12_cluster_136
      rw [if_neg h22] at hf
      by_cases h26 : v2 = 8
      · rw [if_pos h26] at hf
        refine aw_tabIn X (tgt := 137) c_v2 dX12_cluster_33 (by omega) (by omega) (by rw [h26]; rfl) (by decide) ?_
        refine aw_aload_n X 0 dX12_cluster_137 rfl rfl ?_
        refine aw_aload_n X 0 dX12_cluster_138 rfl rfl ?_
        refine aw_getR X s_758 fX12_63 rfl dX12_cluster_139 ?_
        refine aw_iload_n X 1 dX12_cluster_142 rfl rfl ?_
        obtain ⟨q27, e28, hf⟩ := z_bd hf
        refine aw_callV X [.ref (ad 776), z_i v1] [] [z_i q27] cX12_277 s_758 ciX12 (C_X12_highOf l D cA sa ad bs 776 s_776 v1 c_v1 (u2 σ 758 0 0) q27 e28) rfl ⟨(Nat.le_of_ble_eq_true rfl), (Nat.le_of_ble_eq_true rfl), (Nat.le_of_ble_eq_true rfl), (Nat.le_of_ble_eq_true rfl)⟩ rfl (Nat.le_of_ble_eq_true rfl) rfl dX12_cluster_143 (fun p29 => ?_)
        obtain rfl := Option.some.inj hf
        exact aw_iret X p29 hr rfl dX12_cluster_146
      rw [if_neg h26] at hf
      by_cases h30 : v2 = 9
      · rw [if_pos h30] at hf
        refine aw_tabIn X (tgt := 147) c_v2 dX12_cluster_33 (by omega) (by omega) (by rw [h30]; rfl) (by decide) ?_
        refine aw_aload_n X 0 dX12_cluster_147 rfl rfl ?_
        refine aw_aload_n X 0 dX12_cluster_148 rfl rfl ?_
        refine aw_getR X s_758 fX12_63 rfl dX12_cluster_149 ?_
        refine aw_iload_n X 1 dX12_cluster_152 rfl rfl ?_
        obtain ⟨q31, e32, hf⟩ := z_bd hf
        refine aw_callV X [.ref (ad 776), z_i v1] [] [z_i q31] cX12_293 s_758 ciX12 (C_X12_needOf l D cA sa ad bs 776 s_776 v1 c_v1 (u2 σ 758 0 0) q31 e32) rfl ⟨(Nat.le_of_ble_eq_true rfl), (Nat.le_of_ble_eq_true rfl), (Nat.le_of_ble_eq_true rfl), (Nat.le_of_ble_eq_true rfl)⟩ rfl (Nat.le_of_ble_eq_true rfl) rfl dX12_cluster_153 (fun p33 => ?_)
        obtain rfl := Option.some.inj hf
        exact aw_iret X p33 hr rfl dX12_cluster_156
      rw [if_neg h30] at hf
      refine aw_tabOut X (tgt := 157) c_v2 dX12_cluster_33 (by omega) (by decide) ?_
      refine aw_aload_n X 0 dX12_cluster_157 rfl rfl ?_
      refine aw_aload_n X 0 dX12_cluster_158 rfl rfl ?_
      refine aw_getR X s_758 fX12_63 rfl dX12_cluster_159 ?_
      refine aw_iload_n X 1 dX12_cluster_162 rfl rfl ?_
      obtain ⟨q34, e35, hf⟩ := z_bd hf
      refine aw_callV X [.ref (ad 776), z_i v1] [] [z_i q34] cX12_306 s_758 ciX12 (C_X12_wantOf l D cA sa ad bs 776 s_776 v1 c_v1 (u2 σ 758 0 0) q34 e35) rfl ⟨(Nat.le_of_ble_eq_true rfl), (Nat.le_of_ble_eq_true rfl), (Nat.le_of_ble_eq_true rfl), (Nat.le_of_ble_eq_true rfl)⟩ rfl (Nat.le_of_ble_eq_true rfl) rfl dX12_cluster_163 (fun p36 => ?_)
      obtain rfl := Option.some.inj hf
      exact aw_iret X p36 hr rfl dX12_cluster_166
    · rw [if_pos h8] at hf
      refine aw_aload_n X 0 dX12_cluster_25 rfl rfl ?_
      refine aw_iconst X dX12_cluster_26 ?_
      refine aw_putI X s_758 pX12_101 rfl (z_lit (x := 1) (by decide)) dX12_cluster_27 ?_
      refine aw_iconst X dX12_cluster_30 ?_
      obtain rfl := Option.some.inj hf
      exact aw_iret X (z_lit (x := 0) (by decide)) hr rfl dX12_cluster_31
-- SpeedDeskModel.point(III)I
section S_X12_point
variable {p : Program} {l : Launch} {e : Env} {s : State} {m : MethodId} {args : Array Value} {below : List Frame} {meth : Method} {c : Code} {D : va_G} {cA : Nat → ClassId} {sa ad : Nat → Nat} {bs : Nat} {q : (Int × (Nat → Nat → Int))}

end S_X12_point
set_option maxHeartbeats 4000000 in
set_option maxRecDepth 100000 in
theorem C_X12_point (l : Launch) (D : va_G) (cA : Nat → ClassId) (sa ad : Nat → Nat) (bs : Nat) (v1 : Int) (c_v1 : Z_I v1) (v2 : Int) (c_v2 : Z_I v2) (v3 : Int) (c_v3 : Z_I v3) (σ : Nat → Nat → Int) (q : (Int × (Nat → Nat → Int))) (hf : f_X12_point v1 v2 v3 σ = some q) : AM l D cA sa ad bs 788 SHp yX12_point cX12_point 4 (some .int) 1 [.ref (ad 758), z_i v1, z_i v2, z_i v3] σ (some (z_i q.1)) (Z_I q.1) q.2 := by
  refine am_of (by decide +kernel) (Nat.le_of_ble_eq_true rfl) (fun p e s m args below meth c X hr => ?_)
  refine aw_lv (lv' := [(0, .ref (ad 758)), (1, z_i v1), (2, z_i v2), (3, z_i v3)]) rfl ?_
  unfold f_X12_point at hf
  refine aw_aload_n X 0 dX12_point_0 rfl rfl ?_
  refine aw_iconst X dX12_point_1 ?_
  refine aw_putI X s_758 pX12_101 rfl (z_lit (x := 0) (by decide)) dX12_point_2 ?_
  refine aw_aload_n X 0 dX12_point_5 rfl rfl ?_
  refine aw_iload_n X 1 dX12_point_6 rfl rfl ?_
  obtain ⟨q1, e2, hf⟩ := z_bd hf
  refine aw_callV X [z_i v1] [] [z_i q1] cX12_350 s_758 ciX12 (C_X12_isCluster l D cA sa ad bs v1 c_v1 (u2 σ 758 0 0) q1 e2) rfl ⟨(Nat.le_of_ble_eq_true rfl), (Nat.le_of_ble_eq_true rfl), (Nat.le_of_ble_eq_true rfl), (Nat.le_of_ble_eq_true rfl)⟩ rfl (Nat.le_of_ble_eq_true rfl) rfl dX12_point_7 (fun p3 => ?_)
  refine aw_if_eq X (tgt := 55) (z_zI p3) dX12_point_10 (by decide) (fun h4 => ?_) (fun h4 => ?_)
  · rw [if_pos h4] at hf
    refine aw_iconst X dX12_point_55 ?_
    obtain rfl := Option.some.inj hf
    exact aw_iret X (z_lit (x := (-1)) (by decide)) hr rfl dX12_point_56
  · rw [if_neg h4] at hf
    refine aw_iload_n X 2 dX12_point_13 rfl rfl ?_
    refine aw_i2l X c_v2 dX12_point_14 ?_
    refine aw_lconst X (x := 0) dX12_point_15 (by decide) ?_
    refine aw_aload_n X 0 dX12_point_16 rfl rfl ?_
    refine aw_iload_n X 1 dX12_point_17 rfl rfl ?_
    obtain ⟨q5, e6, hf⟩ := z_bd hf
    refine aw_callV X [z_i v1] [z_v 0, z_v v2] [z_i q5, z_v 0, z_v v2] cX12_246 s_758 ciX12 (C_X12_lastPoint l D cA sa ad bs v1 c_v1 (u2 σ 758 0 0) q5 e6) rfl ⟨(Nat.le_of_ble_eq_true rfl), (Nat.le_of_ble_eq_true rfl), (Nat.le_of_ble_eq_true rfl), (Nat.le_of_ble_eq_true rfl)⟩ rfl (Nat.le_of_ble_eq_true rfl) rfl dX12_point_18 (fun p7 => ?_)
    refine aw_i2l X p7 dX12_point_21 ?_
    obtain ⟨q8, e9, hf⟩ := z_bd hf
    refine aw_callS X [z_v v2, z_v 0, z_v q5] [] [z_i q8] cX12_156 (C_X12_isIn l D cA sa ad bs v2 (z_IL c_v2) 0 (z_litL (x := 0) (by decide)) q5 (z_IL p7) (u2 σ 758 0 0) q8 e9) rfl ⟨(Nat.le_of_ble_eq_true rfl), (Nat.le_of_ble_eq_true rfl), (Nat.le_of_ble_eq_true rfl), (Nat.le_of_ble_eq_true rfl)⟩ rfl (Nat.le_of_ble_eq_true rfl) rfl dX12_point_22 (fun p10 => ?_)
    refine aw_if_eq X (tgt := 55) (z_zI p10) dX12_point_25 (by decide) (fun h11 => ?_) (fun h11 => ?_)
    · rw [if_pos h11] at hf
      refine aw_iconst X dX12_point_55 ?_
      obtain rfl := Option.some.inj hf
      exact aw_iret X (z_lit (x := (-1)) (by decide)) hr rfl dX12_point_56
    · rw [if_neg h11] at hf
      refine aw_iload_n X 3 dX12_point_28 rfl rfl ?_
      refine aw_i2l X c_v3 dX12_point_29 ?_
      refine aw_lconst X (x := 0) dX12_point_30 (by decide) ?_
      refine aw_lconst X (x := 1) dX12_point_31 (by decide) ?_
      obtain ⟨q12, e13, hf⟩ := z_bd hf
      refine aw_callS X [z_v v3, z_v 0, z_v 1] [] [z_i q12] cX12_156 (C_X12_isIn l D cA sa ad bs v3 (z_IL c_v3) 0 (z_litL (x := 0) (by decide)) 1 (z_litL (x := 1) (by decide)) (u2 σ 758 0 0) q12 e13) rfl ⟨(Nat.le_of_ble_eq_true rfl), (Nat.le_of_ble_eq_true rfl), (Nat.le_of_ble_eq_true rfl), (Nat.le_of_ble_eq_true rfl)⟩ rfl (Nat.le_of_ble_eq_true rfl) rfl dX12_point_32 (fun p14 => ?_)
      refine aw_if_eq X (tgt := 55) (z_zI p14) dX12_point_35 (by decide) (fun h15 => ?_) (fun h15 => ?_)
      · rw [if_pos h15] at hf
        refine aw_iconst X dX12_point_55 ?_
        obtain rfl := Option.some.inj hf
        exact aw_iret X (z_lit (x := (-1)) (by decide)) hr rfl dX12_point_56
      · rw [if_neg h15] at hf
        refine aw_aload_n X 0 dX12_point_38 rfl rfl ?_
        refine aw_getR X s_758 fX12_29 rfl dX12_point_39 ?_
        refine aw_iconst X dX12_point_42 ?_
        refine aw_iconst X dX12_point_43 ?_
        refine aw_iload_n X 1 dX12_point_44 rfl rfl ?_
        refine aw_imul X dX12_point_45 ?_
        refine aw_iload_n X 2 dX12_point_46 rfl rfl ?_
        refine aw_iadd X dX12_point_47 ?_
        refine aw_imul X dX12_point_48 ?_
        refine aw_iload_n X 3 dX12_point_49 rfl rfl ?_
        refine aw_iadd X dX12_point_50 ?_
        obtain ⟨g16, hf⟩ := z_gd hf
        refine aw_iald X (j := (z_w ((z_w (2 * (z_w ((z_w (5 * v1)) + v2)))) + v3)).toNat) s_765 (z_w_in _) g16.1 g16.2 rfl dX12_point_51 (fun c17 => ?_)
        refine aw_goto X (tgt := 56) dX12_point_52 (by decide) ?_
        obtain rfl := Option.some.inj hf
        exact aw_iret X c17 hr rfl dX12_point_56
