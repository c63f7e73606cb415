-- SpeedDeskModel.greedy(II)I
section S_X12_greedy
variable {p : Program} {l : Launch} {e : Env} {s : State} {m : MethodId} {args : Array Value} {below : List Frame} {meth : Method} {c : Code} {D : va_G} {cA : Nat → ClassId} {sa ad : Nat → Nat} {bs : Nat} {q : (Int × (Nat → Nat → Int))}
set_option maxHeartbeats 4000000 in
set_option maxRecDepth 100000 in
theorem A_X12_greedy_37 (X : AX p s m args meth c D cA sa bs cX12_greedy 3 RX12) (hr : meth.sig.returnType = (some .int)) (v1 : Int) (c_v1 : Z_I v1) (v2 : Int) (c_v2 : Z_I v2) (σ : Nat → Nat → Int) (hf : f_X12_greedy_37 v1 v2 σ = some q) : AW p l e (ax_rm 5 0 0) s m args below meth c D cA ad bs 788 SHp 0 0 (ax_MQ below args s D cA ad bs 788 SHp 0 0 (some (z_i q.1)) (Z_I q.1) q.2) 3 37 [(0, .ref (ad 758)), (1, z_i v1), (2, z_i v2)] [] σ := by
  unfold f_X12_greedy_37 at hf
  refine aw_aload_n X 0 dX12_greedy_37 rfl rfl ?_
  refine aw_aload_n X 0 dX12_greedy_38 rfl rfl ?_
  refine aw_getR X s_758 fX12_63 rfl dX12_greedy_39 ?_
  obtain ⟨q12, e13, hf⟩ := z_bd hf
  refine aw_callV X [.ref (ad 776)] [] [] cX12_363 s_758 ciX12 (C_X12_laysShares l D cA sa ad bs 776 s_776 σ q12 e13) rfl ⟨(Nat.le_of_ble_eq_true rfl), (Nat.le_of_ble_eq_true rfl), (Nat.le_of_ble_eq_true rfl), (Nat.le_of_ble_eq_true rfl)⟩ rfl (Nat.le_of_ble_eq_true rfl) rfl dX12_greedy_42 (fun p14 => ?_)
  refine aw_aload_n X 0 dX12_greedy_45 rfl rfl ?_
  obtain ⟨q15, e16, hf⟩ := z_bd hf
  refine aw_callV X [] [] [z_i q15.1] cX12_453 s_758 ciX12 (C_X12_putsAll l D cA sa ad bs q12 q15 e16) rfl ⟨(Nat.le_of_ble_eq_true rfl), (Nat.le_of_ble_eq_true rfl), (Nat.le_of_ble_eq_true rfl), (Nat.le_of_ble_eq_true rfl)⟩ rfl (Nat.le_of_ble_eq_true rfl) rfl dX12_greedy_46 (fun p17 => ?_)
  refine aw_if_ne X (tgt := 54) (z_zI p17) dX12_greedy_49 (by decide) (fun h18 => ?_) (fun h18 => ?_)
  · rw [if_neg h18] at hf
    refine aw_iload_n X 1 dX12_greedy_54 rfl rfl ?_
    refine aw_if_ne X (tgt := 69) c_v1 dX12_greedy_55 (by decide) (fun h19 => ?_) (fun h19 => ?_)
    · rw [if_neg h19] at hf
      refine aw_aload_n X 0 dX12_greedy_69 rfl rfl ?_
      refine aw_getR X s_758 fX12_89 rfl dX12_greedy_70 ?_
      refine aw_iload_n X 2 dX12_greedy_73 rfl rfl ?_
      obtain ⟨g20, hf⟩ := z_gd hf
      refine aw_iald X (j := v2.toNat) s_783 c_v2 g20.1 g20.2 rfl dX12_greedy_74 (fun c21 => ?_)
      obtain rfl := Option.some.inj hf
      exact aw_iret X c21 hr rfl dX12_greedy_75
    · rw [if_pos h19] at hf
      refine aw_aload_n X 0 dX12_greedy_58 rfl rfl ?_
      refine aw_aload_n X 0 dX12_greedy_59 rfl rfl ?_
      refine aw_getR X s_758 fX12_63 rfl dX12_greedy_60 ?_
      obtain ⟨q22, e23, hf⟩ := z_bd hf
      refine aw_callV X [.ref (ad 776)] [] [z_i q22] cX12_441 s_758 ciX12 (C_X12_pricePut l D cA sa ad bs 776 s_776 q15.2 q22 e23) rfl ⟨(Nat.le_of_ble_eq_true rfl), (Nat.le_of_ble_eq_true rfl), (Nat.le_of_ble_eq_true rfl), (Nat.le_of_ble_eq_true rfl)⟩ rfl (Nat.le_of_ble_eq_true rfl) rfl dX12_greedy_63 (fun p24 => ?_)
      refine aw_goto X (tgt := 75) dX12_greedy_66 (by decide) ?_
      obtain rfl := Option.some.inj hf
      exact aw_iret X p24 hr rfl dX12_greedy_75
  · rw [if_pos h18] at hf
    refine aw_iconst X dX12_greedy_52 ?_
    obtain rfl := Option.some.inj hf
    exact aw_iret X (z_lit (x := (-1)) (by decide)) hr rfl dX12_greedy_53
end S_X12_greedy
set_option maxHeartbeats 4000000 in
set_option maxRecDepth 100000 in
theorem C_X12_greedy (l : Launch) (D : va_G) (cA : Nat → ClassId) (sa ad : Nat → Nat) (bs : Nat) (v1 : Int) (c_v1 : Z_I v1) (v2 : Int) (c_v2 : Z_I v2) (σ : Nat → Nat → Int) (q : (Int × (Nat → Nat → Int))) (hf : f_X12_greedy v1 v2 σ = some q) : AM l D cA sa ad bs 788 SHp yX12_greedy cX12_greedy 3 (some .int) 5 [.ref (ad 758), z_i v1, z_i v2] σ (some (z_i q.1)) (Z_I q.1) q.2 := by
  refine am_of (by decide +kernel) (Nat.le_of_ble_eq_true rfl) (fun p e s m args below meth c X hr => ?_)
  refine aw_lv (lv' := [(0, .ref (ad 758)), (1, z_i v1), (2, z_i v2)]) rfl ?_
  unfold f_X12_greedy at hf
  refine aw_aload_n X 0 dX12_greedy_0 rfl rfl ?_
  refine aw_iconst X dX12_greedy_1 ?_
  refine aw_putI X s_758 pX12_101 rfl (z_lit (x := 0) (by decide)) dX12_greedy_2 ?_
  refine aw_aload_n X 0 dX12_greedy_5 rfl rfl ?_
  refine aw_getI X s_758 fX12_234 rfl dX12_greedy_6 (fun c1 => ?_)
  refine aw_if_eq X (tgt := 35) c1 dX12_greedy_9 (by decide) (fun h2 => ?_) (fun h2 => ?_)
  · rw [if_pos h2] at hf
    refine aw_iconst X dX12_greedy_35 ?_
    obtain rfl := Option.some.inj hf
    exact aw_iret X (z_lit (x := (-1)) (by decide)) hr rfl dX12_greedy_36
  · rw [if_neg h2] at hf
    refine aw_iload_n X 1 dX12_greedy_12 rfl rfl ?_
    refine aw_i2l X c_v1 dX12_greedy_13 ?_
    refine aw_lconst X (x := 0) dX12_greedy_14 (by decide) ?_
    refine aw_lconst X (x := 1) dX12_greedy_15 (by decide) ?_
    obtain ⟨q3, e4, hf⟩ := z_bd hf
    refine aw_callS X [z_v v1, z_v 0, z_v 1] [] [z_i q3] cX12_156 (C_X12_isIn l D cA sa ad bs v1 (z_IL c_v1) 0 (z_litL (x := 0) (by decide)) 1 (z_litL (x := 1) (by decide)) (u2 σ 758 0 0) q3 e4) rfl ⟨(Nat.le_of_ble_eq_true rfl), (Nat.le_of_ble_eq_true rfl), (Nat.le_of_ble_eq_true rfl), (Nat.le_of_ble_eq_true rfl)⟩ rfl (Nat.le_of_ble_eq_true rfl) rfl dX12_greedy_16 (fun p5 => ?_)
    refine aw_if_eq X (tgt := 35) (z_zI p5) dX12_greedy_19 (by decide) (fun h6 => ?_) (fun h6 => ?_)
    · rw [if_pos h6] at hf
      refine aw_iconst X dX12_greedy_35 ?_
      obtain rfl := Option.some.inj hf
      exact aw_iret X (z_lit (x := (-1)) (by decide)) hr rfl dX12_greedy_36
    · rw [if_neg h6] at hf
      refine aw_iload_n X 1 dX12_greedy_22 rfl rfl ?_
      refine aw_iconst X dX12_greedy_23 ?_
      refine aw_icmp_ne X (tgt := 37) c_v1 (z_lit (x := 1) (by decide)) dX12_greedy_24 (by decide) (fun h7 => ?_) (fun h7 => ?_)
      · rw [if_neg h7] at hf
        exact A_X12_greedy_37 X hr v1 c_v1 v2 c_v2 (u2 σ 758 0 0) hf
      · rw [if_pos h7] at hf
        refine aw_aload_n X 0 dX12_greedy_27 rfl rfl ?_
        refine aw_iload_n X 2 dX12_greedy_28 rfl rfl ?_
        obtain ⟨q8, e9, hf⟩ := z_bd hf
        refine aw_callV X [z_i v2] [] [z_i q8] cX12_339 s_758 ciX12 (C_X12_isTask l D cA sa ad bs v2 c_v2 (u2 σ 758 0 0) q8 e9) rfl ⟨(Nat.le_of_ble_eq_true rfl), (Nat.le_of_ble_eq_true rfl), (Nat.le_of_ble_eq_true rfl), (Nat.le_of_ble_eq_true rfl)⟩ rfl (Nat.le_of_ble_eq_true rfl) rfl dX12_greedy_29 (fun p10 => ?_)
        refine aw_if_ne X (tgt := 37) (z_zI p10) dX12_greedy_32 (by decide) (fun h11 => ?_) (fun h11 => ?_)
        · rw [if_neg h11] at hf
          exact A_X12_greedy_37 X hr v1 c_v1 v2 c_v2 (u2 σ 758 0 0) hf
        · rw [if_pos h11] at hf
          refine aw_iconst X dX12_greedy_35 ?_
          obtain rfl := Option.some.inj hf
          exact aw_iret X (z_lit (x := (-1)) (by decide)) hr rfl dX12_greedy_36
-- SpeedDeskModel.moves()I
section S_X12_moves
variable {p : Program} {l : Launch} {e : Env} {s : State} {m : MethodId} {args : Array Value} {below : List Frame} {meth : Method} {c : Code} {D : va_G} {cA : Nat → ClassId} {sa ad : Nat → Nat} {bs : Nat} {q : (Int × (Nat → Nat → Int))}
set_option maxHeartbeats 4000000 in
set_option maxRecDepth 100000 in
theorem A_X12_moves_160 (X : AX p s m args meth c D cA sa bs cX12_moves 8 RX12) (hr : meth.sig.returnType = (some .int)) (K110 : Int → Int → (Nat → Nat → Int) → Option (Int × (Nat → Nat → Int))) (K148 : Int → Int → Int → Int → (Nat → Nat → Int) → Option (Int × (Nat → Nat → Int))) (hK110 : ∀ (v2 : Int) (c_v2 : Z_I v2) (v3 : Int) (c_v3 : Z_I v3) (σ : Nat → Nat → Int), K110 v2 v3 σ = some q → AW p l e (ax_rm 6 0 0) s m args below meth c D cA ad bs 788 SHp 0 0 (ax_MQ below args s D cA ad bs 788 SHp 0 0 (some (z_i q.1)) (Z_I q.1) q.2) 8 110 [(0, .ref (ad 758)), (2, z_i v2), (3, z_i v3)] [] σ) (hK148 : ∀ (v2 : Int) (c_v2 : Z_I v2) (v3 : Int) (c_v3 : Z_I v3) (v4 : Int) (c_v4 : Z_I v4) (v5 : Int) (c_v5 : Z_I v5) (σ : Nat → Nat → Int), K148 v2 v3 v4 v5 σ = some q → AW p l e (ax_rm 6 0 0) s m args below meth c D cA ad bs 788 SHp 0 0 (ax_MQ below args s D cA ad bs 788 SHp 0 0 (some (z_i q.1)) (Z_I q.1) q.2) 8 148 [(0, .ref (ad 758)), (2, z_i v2), (3, z_i v3), (4, z_i v4), (5, z_i v5)] [] σ) : ∀ (k : Nat) (v2 : Int) (c_v2 : Z_I v2) (v3 : Int) (c_v3 : Z_I v3) (v4 : Int) (c_v4 : Z_I v4) (v5 : Int) (c_v5 : Z_I v5) (v6 : Int) (c_v6 : Z_I v6) (σ : Nat → Nat → Int), f_X12_moves_160 K110 K148 k v2 v3 v4 v5 v6 σ = some q → AW p l e (ax_rm 6 0 0) s m args below meth c D cA ad bs 788 SHp 0 0 (ax_MQ below args s D cA ad bs 788 SHp 0 0 (some (z_i q.1)) (Z_I q.1) q.2) 8 160 [(0, .ref (ad 758)), (2, z_i v2), (3, z_i v3), (4, z_i v4), (5, z_i v5), (6, z_i v6)] [] σ := by
  intro k
  induction k with
  | zero =>
    intro v2 c_v2 v3 c_v3 v4 c_v4 v5 c_v5 v6 c_v6 σ hf
    unfold f_X12_moves_160 at hf
    cases hf
  | succ k ih =>
    intro v2 c_v2 v3 c_v3 v4 c_v4 v5 c_v5 v6 c_v6 σ hf
    unfold f_X12_moves_160 at hf
    refine aw_iload X 5 dX12_moves_160 rfl ?_
    refine aw_aload_n X 0 dX12_moves_162 rfl rfl ?_
    refine aw_getI X s_758 fX12_240 rfl dX12_moves_163 (fun c36 => ?_)
    refine aw_icmp_ge X (tgt := 257) c_v6 c36 dX12_moves_166 (by decide) (fun h37 => ?_) (fun h37 => ?_)
    · rw [if_pos h37] at hf
      refine aw_iinc X 4 [(5, z_i (z_w (v5 + 1))), (0, .ref (ad 758)), (2, z_i v2), (3, z_i v3), (4, z_i v4), (6, z_i v6)] dX12_moves_257 rfl (by decide) rfl ?_
      refine aw_goto X (tgt := 148) dX12_moves_260 (by decide) ?_
      refine aw_sub [1, 2, 3, 4, 0] rfl ?_
      exact hK148 v2 c_v2 v3 c_v3 v4 c_v4 (z_w (v5 + 1)) (z_w_in _) σ hf
    · rw [if_neg h37] at hf
      refine aw_iload X 3 dX12_moves_169 rfl ?_
      refine aw_iload X 5 dX12_moves_171 rfl ?_
      refine aw_aload_n X 0 dX12_moves_173 rfl rfl ?_
      refine aw_iload X 3 dX12_moves_174 rfl ?_
      refine aw_iload X 4 dX12_moves_176 rfl ?_
      obtain ⟨q38, e39, hf⟩ := z_bd hf
      refine aw_callV X [z_i v4, z_i v5] [z_i v6, z_i v4] [z_i q38, z_i v6, z_i v4] cX12_386 s_758 ciX12 (C_X12_coreIn l D cA sa ad bs v4 c_v4 v5 c_v5 σ q38 e39) rfl ⟨(Nat.le_of_ble_eq_true rfl), (Nat.le_of_ble_eq_true rfl), (Nat.le_of_ble_eq_true rfl), (Nat.le_of_ble_eq_true rfl)⟩ rfl (Nat.le_of_ble_eq_true rfl) rfl dX12_moves_178 (fun p40 => ?_)
      refine aw_isub X dX12_moves_181 ?_
      refine aw_aload_n X 0 dX12_moves_182 rfl rfl ?_
      refine aw_aload_n X 0 dX12_moves_183 rfl rfl ?_
      refine aw_getI X s_758 fX12_237 rfl dX12_moves_184 (fun c41 => ?_)
      refine aw_iconst X dX12_moves_187 ?_
      refine aw_isub X dX12_moves_188 ?_
      refine aw_iload X 4 dX12_moves_189 rfl ?_
      refine aw_isub X dX12_moves_191 ?_
      obtain ⟨q42, e43, hf⟩ := z_bd hf
      refine aw_callV X [z_i (z_w ((z_w ((σ 758 23) - 1)) - v5))] [z_i (z_w (v6 - q38)), z_i v4] [z_i q42, z_i (z_w (v6 - q38)), z_i v4] cX12_438 s_758 ciX12 (C_X12_power l D cA sa ad bs (z_w ((z_w ((σ 758 23) - 1)) - v5)) (z_w_in _) σ q42 e43) rfl ⟨(Nat.le_of_ble_eq_true rfl), (Nat.le_of_ble_eq_true rfl), (Nat.le_of_ble_eq_true rfl), (Nat.le_of_ble_eq_true rfl)⟩ rfl (Nat.le_of_ble_eq_true rfl) rfl dX12_moves_192 (fun p44 => ?_)
      refine aw_imul X dX12_moves_195 ?_
      refine aw_iadd X dX12_moves_196 ?_
      refine aw_istore X [(7, z_i (z_w (v4 + (z_w ((z_w (v6 - q38)) * q42))))), (0, .ref (ad 758)), (2, z_i v2), (3, z_i v3), (4, z_i v4), (5, z_i v5), (6, z_i v6)] dX12_moves_197 (by decide) rfl ?_
      refine aw_aload_n X 1 dX12_moves_199 rfl rfl ?_
      refine aw_getR X s_758 fX12_95 rfl dX12_moves_200 ?_
      refine aw_iload X 0 dX12_moves_203 rfl ?_
      obtain ⟨g45, hf⟩ := z_gd hf
      refine aw_iald X (j := (z_w (v4 + (z_w ((z_w (v6 - q38)) * q42)))).toNat) s_785 (z_w_in _) g45.1 g45.2 rfl dX12_moves_205 (fun c46 => ?_)
      refine aw_iconst X dX12_moves_206 ?_
      refine aw_icmp_ne X (tgt := 251) c46 (z_lit (x := (-1)) (by decide)) dX12_moves_207 (by decide) (fun h47 => ?_) (fun h47 => ?_)
      · rw [if_neg h47] at hf
        refine aw_iinc X 6 [(6, z_i (z_w (v6 + 1))), (7, z_i (z_w (v4 + (z_w ((z_w (v6 - q38)) * q42))))), (0, .ref (ad 758)), (2, z_i v2), (3, z_i v3), (4, z_i v4), (5, z_i v5)] dX12_moves_251 rfl (by decide) rfl ?_
        refine aw_goto X (tgt := 160) dX12_moves_254 (by decide) ?_
        refine aw_sub [2, 3, 4, 5, 6, 0] rfl ?_
        exact ih v2 c_v2 v3 c_v3 v4 c_v4 v5 c_v5 (z_w (v6 + 1)) (z_w_in _) σ hf
      · rw [if_pos h47] at hf
        refine aw_aload_n X 1 dX12_moves_210 rfl rfl ?_
        refine aw_getR X s_758 fX12_92 rfl dX12_moves_211 ?_
        refine aw_iload X 0 dX12_moves_214 rfl ?_
        obtain ⟨g48, hf⟩ := z_gd hf
        refine aw_iald X (j := (z_w (v4 + (z_w ((z_w (v6 - q38)) * q42)))).toNat) s_784 (z_w_in _) g48.1 g48.2 rfl dX12_moves_216 (fun c49 => ?_)
        refine aw_iconst X dX12_moves_217 ?_
        refine aw_icmp_ne X (tgt := 224) c49 (z_lit (x := (-1)) (by decide)) dX12_moves_218 (by decide) (fun h50 => ?_) (fun h50 => ?_)
        · rw [if_neg h50] at hf
          refine aw_aload_n X 1 dX12_moves_224 rfl rfl ?_
          refine aw_getR X s_758 fX12_95 rfl dX12_moves_225 ?_
          refine aw_iload X 0 dX12_moves_228 rfl ?_
          refine aw_aload_n X 1 dX12_moves_230 rfl rfl ?_
          refine aw_getR X s_758 fX12_95 rfl dX12_moves_231 ?_
          refine aw_iload X 4 dX12_moves_234 rfl ?_
          obtain ⟨g51, hf⟩ := z_gd hf
          refine aw_iald X (j := v4.toNat) s_785 c_v4 g51.1 g51.2 rfl dX12_moves_236 (fun c52 => ?_)
          refine aw_iconst X dX12_moves_237 ?_
          refine aw_iadd X dX12_moves_238 ?_
          obtain ⟨g53, hf⟩ := z_gd hf
          refine aw_iast X (j := (z_w (v4 + (z_w ((z_w (v6 - q38)) * q42)))).toNat) s_785 (z_w_in _) g53.1 g53.2 rfl (z_w_in _) dX12_moves_239 ?_
          refine aw_aload_n X 1 dX12_moves_240 rfl rfl ?_
          refine aw_getR X s_758 fX12_98 rfl dX12_moves_241 ?_
          refine aw_iload_n X 2 dX12_moves_244 rfl rfl ?_
          refine aw_iload X 0 dX12_moves_245 rfl ?_
          obtain ⟨g54, hf⟩ := z_gd hf
          refine aw_iast X (j := v2.toNat) s_786 c_v2 g54.1 g54.2 rfl (z_w_in _) dX12_moves_247 ?_
          refine aw_iinc X 2 [(2, z_i (z_w (v2 + 1))), (7, z_i (z_w (v4 + (z_w ((z_w (v6 - q38)) * q42))))), (0, .ref (ad 758)), (3, z_i v3), (4, z_i v4), (5, z_i v5), (6, z_i v6)] dX12_moves_248 rfl (by decide) rfl ?_
          refine aw_iinc X 6 [(6, z_i (z_w (v6 + 1))), (2, z_i (z_w (v2 + 1))), (7, z_i (z_w (v4 + (z_w ((z_w (v6 - q38)) * q42))))), (0, .ref (ad 758)), (3, z_i v3), (4, z_i v4), (5, z_i v5)] dX12_moves_251 rfl (by decide) rfl ?_
          refine aw_goto X (tgt := 160) dX12_moves_254 (by decide) ?_
          refine aw_sub [3, 1, 4, 5, 6, 0] rfl ?_
          exact ih (z_w (v2 + 1)) (z_w_in _) v3 c_v3 v4 c_v4 v5 c_v5 (z_w (v6 + 1)) (z_w_in _) (u2 (u2 σ 785 (z_w (v4 + (z_w ((z_w (v6 - q38)) * q42)))).toNat (z_w ((σ 785 v4.toNat) + 1))) 786 v2.toNat (z_w (v4 + (z_w ((z_w (v6 - q38)) * q42))))) hf
        · rw [if_pos h50] at hf
          refine aw_goto X (tgt := 251) dX12_moves_221 (by decide) ?_
          refine aw_iinc X 6 [(6, z_i (z_w (v6 + 1))), (7, z_i (z_w (v4 + (z_w ((z_w (v6 - q38)) * q42))))), (0, .ref (ad 758)), (2, z_i v2), (3, z_i v3), (4, z_i v4), (5, z_i v5)] dX12_moves_251 rfl (by decide) rfl ?_
          refine aw_goto X (tgt := 160) dX12_moves_254 (by decide) ?_
          refine aw_sub [2, 3, 4, 5, 6, 0] rfl ?_
          exact ih v2 c_v2 v3 c_v3 v4 c_v4 v5 c_v5 (z_w (v6 + 1)) (z_w_in _) σ hf
set_option maxHeartbeats 4000000 in
set_option maxRecDepth 100000 in
theorem A_X12_moves_148 (X : AX p s m args meth c D cA sa bs cX12_moves 8 RX12) (hr : meth.sig.returnType = (some .int)) (K110 : Int → Int → (Nat → Nat → Int) → Option (Int × (Nat → Nat → Int))) (hK110 : ∀ (v2 : Int) (c_v2 : Z_I v2) (v3 : Int) (c_v3 : Z_I v3) (σ : Nat → Nat → Int), K110 v2 v3 σ = some q → AW p l e (ax_rm 6 0 0) s m args below meth c D cA ad bs 788 SHp 0 0 (ax_MQ below args s D cA ad bs 788 SHp 0 0 (some (z_i q.1)) (Z_I q.1) q.2) 8 110 [(0, .ref (ad 758)), (2, z_i v2), (3, z_i v3)] [] σ) : ∀ (k : Nat) (v2 : Int) (c_v2 : Z_I v2) (v3 : Int) (c_v3 : Z_I v3) (v4 : Int) (c_v4 : Z_I v4) (v5 : Int) (c_v5 : Z_I v5) (σ : Nat → Nat → Int), f_X12_moves_148 K110 k v2 v3 v4 v5 σ = some q → AW p l e (ax_rm 6 0 0) s m args below meth c D cA ad bs 788 SHp 0 0 (ax_MQ below args s D cA ad bs 788 SHp 0 0 (some (z_i q.1)) (Z_I q.1) q.2) 8 148 [(0, .ref (ad 758)), (2, z_i v2), (3, z_i v3), (4, z_i v4), (5, z_i v5)] [] σ := by
  intro k
  induction k with
  | zero =>
    intro v2 c_v2 v3 c_v3 v4 c_v4 v5 c_v5 σ hf
    unfold f_X12_moves_148 at hf
    cases hf
  | succ k ih =>
    intro v2 c_v2 v3 c_v3 v4 c_v4 v5 c_v5 σ hf
    unfold f_X12_moves_148 at hf
    refine aw_iload X 4 dX12_moves_148 rfl ?_
    refine aw_aload_n X 0 dX12_moves_150 rfl rfl ?_
    refine aw_getI X s_758 fX12_237 rfl dX12_moves_151 (fun c34 => ?_)
    refine aw_icmp_ge X (tgt := 263) c_v5 c34 dX12_moves_154 (by decide) (fun h35 => ?_) (fun h35 => ?_)
    · rw [if_pos h35] at hf
      refine aw_iinc X 2 [(3, z_i (z_w (v3 + 1))), (0, .ref (ad 758)), (2, z_i v2), (4, z_i v4), (5, z_i v5)] dX12_moves_263 rfl (by decide) rfl ?_
      refine aw_goto X (tgt := 110) dX12_moves_266 (by decide) ?_
      refine aw_sub [1, 2, 0] rfl ?_
      exact hK110 v2 c_v2 (z_w (v3 + 1)) (z_w_in _) σ hf
    · rw [if_neg h35] at hf
      refine aw_iconst X dX12_moves_157 ?_
      refine aw_istore X [(6, z_i 0), (0, .ref (ad 758)), (2, z_i v2), (3, z_i v3), (4, z_i v4), (5, z_i v5)] dX12_moves_158 (by decide) rfl ?_
      refine aw_sub [1, 2, 3, 4, 5, 0] rfl ?_
      exact A_X12_moves_160 X hr K110 (f_X12_moves_148 K110 k) hK110 ih 100000 v2 c_v2 v3 c_v3 v4 c_v4 v5 c_v5 0 (z_lit (x := 0) (by decide)) σ hf
set_option maxHeartbeats 4000000 in
set_option maxRecDepth 100000 in
theorem A_X12_moves_110 (X : AX p s m args meth c D cA sa bs cX12_moves 8 RX12) (hr : meth.sig.returnType = (some .int)) : ∀ (k : Nat) (v2 : Int) (c_v2 : Z_I v2) (v3 : Int) (c_v3 : Z_I v3) (σ : Nat → Nat → Int), f_X12_moves_110 k v2 v3 σ = some q → AW p l e (ax_rm 6 0 0) s m args below meth c D cA ad bs 788 SHp 0 0 (ax_MQ below args s D cA ad bs 788 SHp 0 0 (some (z_i q.1)) (Z_I q.1) q.2) 8 110 [(0, .ref (ad 758)), (2, z_i v2), (3, z_i v3)] [] σ := by
  intro k
  induction k with
  | zero =>
    intro v2 c_v2 v3 c_v3 σ hf
    unfold f_X12_moves_110 at hf
    cases hf
  | succ k ih =>
    intro v2 c_v2 v3 c_v3 σ hf
    unfold f_X12_moves_110 at hf
    refine aw_iload_n X 2 dX12_moves_110 rfl rfl ?_
    refine aw_iload_n X 1 dX12_moves_111 rfl rfl ?_
    refine aw_icmp_ge X (tgt := 269) c_v3 c_v2 dX12_moves_112 (by decide) (fun h25 => ?_) (fun h25 => ?_)
    · rw [if_pos h25] at hf
      refine aw_iconst X dX12_moves_269 ?_
      obtain rfl := Option.some.inj hf
      exact aw_iret X (z_lit (x := (-1)) (by decide)) hr rfl dX12_moves_270
    · rw [if_neg h25] at hf
      refine aw_aload_n X 0 dX12_moves_115 rfl rfl ?_
      refine aw_getR X s_758 fX12_98 rfl dX12_moves_116 ?_
      refine aw_iload_n X 2 dX12_moves_119 rfl rfl ?_
      obtain ⟨g26, hf⟩ := z_gd hf
      refine aw_iald X (j := v3.toNat) s_786 c_v3 g26.1 g26.2 rfl dX12_moves_120 (fun c27 => ?_)
      refine aw_istore X [(4, z_i (σ 786 v3.toNat)), (0, .ref (ad 758)), (2, z_i v2), (3, z_i v3)] dX12_moves_121 (by decide) rfl ?_
      refine aw_aload_n X 1 dX12_moves_123 rfl rfl ?_
      refine aw_getR X s_758 fX12_92 rfl dX12_moves_124 ?_
      refine aw_iload X 0 dX12_moves_127 rfl ?_
      obtain ⟨g28, hf⟩ := z_gd hf
      refine aw_iald X (j := (σ 786 v3.toNat).toNat) s_784 c27 g28.1 g28.2 rfl dX12_moves_129 (fun c29 => ?_)
      refine aw_aload_n X 1 dX12_moves_130 rfl rfl ?_
      refine aw_getI X s_758 fX12_447 rfl dX12_moves_131 (fun c30 => ?_)
      refine aw_icmp_ne X (tgt := 145) c29 c30 dX12_moves_134 (by decide) (fun h31 => ?_) (fun h31 => ?_)
      · rw [if_neg h31] at hf
        refine aw_iconst X dX12_moves_145 ?_
        refine aw_istore X [(5, z_i 0), (4, z_i (σ 786 v3.toNat)), (0, .ref (ad 758)), (2, z_i v2), (3, z_i v3)] dX12_moves_146 (by decide) rfl ?_
        refine aw_sub [2, 3, 4, 1, 0] rfl ?_
        exact A_X12_moves_148 X hr (f_X12_moves_110 k) ih 100000 v2 c_v2 v3 c_v3 (σ 786 v3.toNat) c27 0 (z_lit (x := 0) (by decide)) σ hf
      · rw [if_pos h31] at hf
        refine aw_aload_n X 1 dX12_moves_137 rfl rfl ?_
        refine aw_getR X s_758 fX12_95 rfl dX12_moves_138 ?_
        refine aw_iload X 0 dX12_moves_141 rfl ?_
        obtain ⟨g32, hf⟩ := z_gd hf
        refine aw_iald X (j := (σ 786 v3.toNat).toNat) s_785 c27 g32.1 g32.2 rfl dX12_moves_143 (fun c33 => ?_)
        obtain rfl := Option.some.inj hf
        exact aw_iret X c33 hr rfl dX12_moves_144
set_option maxHeartbeats 4000000 in
set_option maxRecDepth 100000 in
theorem A_X12_moves_47 (X : AX p s m args meth c D cA sa bs cX12_moves 8 RX12) (hr : meth.sig.returnType = (some .int)) : ∀ (k : Nat) (v1 : Int) (c_v1 : Z_I v1) (v2 : Int) (c_v2 : Z_I v2) (σ : Nat → Nat → Int), f_X12_moves_47 k v1 v2 σ = some q → AW p l e (ax_rm 6 0 0) s m args below meth c D cA ad bs 788 SHp 0 0 (ax_MQ below args s D cA ad bs 788 SHp 0 0 (some (z_i q.1)) (Z_I q.1) q.2) 8 47 [(0, .ref (ad 758)), (1, z_i v1), (2, z_i v2)] [] σ := by
  intro k
  induction k with
  | zero =>
    intro v1 c_v1 v2 c_v2 σ hf
    unfold f_X12_moves_47 at hf
    cases hf
  | succ k ih =>
    intro v1 c_v1 v2 c_v2 σ hf
    unfold f_X12_moves_47 at hf
    refine aw_iload_n X 2 dX12_moves_47 rfl rfl ?_
    refine aw_iload_n X 1 dX12_moves_48 rfl rfl ?_
    refine aw_icmp_ge X (tgt := 80) c_v2 c_v1 dX12_moves_49 (by decide) (fun h14 => ?_) (fun h14 => ?_)
    · rw [if_pos h14] at hf
      refine aw_aload_n X 0 dX12_moves_80 rfl rfl ?_
      refine aw_getR X s_758 fX12_98 rfl dX12_moves_81 ?_
      refine aw_iconst X dX12_moves_84 ?_
      refine aw_aload_n X 0 dX12_moves_85 rfl rfl ?_
      refine aw_aload_n X 0 dX12_moves_86 rfl rfl ?_
      refine aw_getR X s_758 fX12_63 rfl dX12_moves_87 ?_
      obtain ⟨q15, e16, hf⟩ := z_bd hf
      refine aw_callV X [.ref (ad 776)] [z_i 0, .ref (ad 786)] [z_i q15, z_i 0, .ref (ad 786)] cX12_370 s_758 ciX12 (C_X12_wayOf l D cA sa ad bs 776 s_776 σ q15 e16) rfl ⟨(Nat.le_of_ble_eq_true rfl), (Nat.le_of_ble_eq_true rfl), (Nat.le_of_ble_eq_true rfl), (Nat.le_of_ble_eq_true rfl)⟩ rfl (Nat.le_of_ble_eq_true rfl) rfl dX12_moves_90 (fun p17 => ?_)
      refine aw_iast X (j := 0) s_786 (z_lit (x := 0) (by decide)) (by decide) (by decide) rfl p17 dX12_moves_93 ?_
      refine aw_aload_n X 0 dX12_moves_94 rfl rfl ?_
      refine aw_getR X s_758 fX12_95 rfl dX12_moves_95 ?_
      refine aw_aload_n X 0 dX12_moves_98 rfl rfl ?_
      refine aw_getR X s_758 fX12_98 rfl dX12_moves_99 ?_
      refine aw_iconst X dX12_moves_102 ?_
      refine aw_iald X (j := 0) s_786 (z_lit (x := 0) (by decide)) (by decide) (by decide) rfl dX12_moves_103 (fun c18 => ?_)
      refine aw_iconst X dX12_moves_104 ?_
      obtain ⟨g19, hf⟩ := z_gd hf
      refine aw_iast X (j := ((u2 σ 786 0 q15) 786 0).toNat) s_785 c18 g19.1 g19.2 rfl (z_lit (x := 0) (by decide)) dX12_moves_105 ?_
      refine aw_iconst X dX12_moves_106 ?_
      refine aw_istore_n X [(2, z_i 1), (0, .ref (ad 758)), (1, z_i v1)] dX12_moves_107 rfl (by decide) rfl ?_
      refine aw_iconst X dX12_moves_108 ?_
      refine aw_istore_n X [(3, z_i 0), (2, z_i 1), (0, .ref (ad 758)), (1, z_i v1)] dX12_moves_109 rfl (by decide) rfl ?_
      refine aw_sub [2, 1, 0] rfl ?_
      exact A_X12_moves_110 X hr 100000 1 (z_lit (x := 1) (by decide)) 0 (z_lit (x := 0) (by decide)) (u2 (u2 σ 786 0 q15) 785 ((u2 σ 786 0 q15) 786 0).toNat 0) hf
    · rw [if_neg h14] at hf
      refine aw_aload_n X 0 dX12_moves_52 rfl rfl ?_
      refine aw_getR X s_758 fX12_92 rfl dX12_moves_53 ?_
      refine aw_iload_n X 2 dX12_moves_56 rfl rfl ?_
      refine aw_aload_n X 0 dX12_moves_57 rfl rfl ?_
      refine aw_aload_n X 0 dX12_moves_58 rfl rfl ?_
      refine aw_getR X s_758 fX12_63 rfl dX12_moves_59 ?_
      refine aw_iload_n X 2 dX12_moves_62 rfl rfl ?_
      obtain ⟨q20, e21, hf⟩ := z_bd hf
      refine aw_callV X [.ref (ad 776), z_i v2] [z_i v2, .ref (ad 784)] [z_i q20.1, z_i v2, .ref (ad 784)] cX12_444 s_758 ciX12 (C_X12_priceOf l D cA sa ad bs 776 s_776 v2 c_v2 σ q20 e21) rfl ⟨(Nat.le_of_ble_eq_true rfl), (Nat.le_of_ble_eq_true rfl), (Nat.le_of_ble_eq_true rfl), (Nat.le_of_ble_eq_true rfl)⟩ rfl (Nat.le_of_ble_eq_true rfl) rfl dX12_moves_63 (fun p22 => ?_)
      obtain ⟨g23, hf⟩ := z_gd hf
      refine aw_iast X (j := v2.toNat) s_784 c_v2 g23.1 g23.2 rfl p22 dX12_moves_66 ?_
      refine aw_aload_n X 0 dX12_moves_67 rfl rfl ?_
      refine aw_getR X s_758 fX12_95 rfl dX12_moves_68 ?_
      refine aw_iload_n X 2 dX12_moves_71 rfl rfl ?_
      refine aw_iconst X dX12_moves_72 ?_
      obtain ⟨g24, hf⟩ := z_gd hf
      refine aw_iast X (j := v2.toNat) s_785 c_v2 g24.1 g24.2 rfl (z_lit (x := (-1)) (by decide)) dX12_moves_73 ?_
      refine aw_iinc X 2 [(2, z_i (z_w (v2 + 1))), (0, .ref (ad 758)), (1, z_i v1)] dX12_moves_74 rfl (by decide) rfl ?_
      refine aw_goto X (tgt := 47) dX12_moves_77 (by decide) ?_
      refine aw_sub [1, 2, 0] rfl ?_
      exact ih v1 c_v1 (z_w (v2 + 1)) (z_w_in _) (u2 (u2 q20.2 784 v2.toNat q20.1) 785 v2.toNat (-1)) hf
end S_X12_moves
set_option maxHeartbeats 4000000 in
set_option maxRecDepth 100000 in
theorem C_X12_moves (l : Launch) (D : va_G) (cA : Nat → ClassId) (sa ad : Nat → Nat) (bs : Nat)  (σ : Nat → Nat → Int) (q : (Int × (Nat → Nat → Int))) (hf : f_X12_moves σ = some q) : AM l D cA sa ad bs 788 SHp yX12_moves cX12_moves 8 (some .int) 6 [.ref (ad 758)] σ (some (z_i q.1)) (Z_I q.1) q.2 := by
  refine am_of (by decide +kernel) (Nat.le_of_ble_eq_true rfl) (fun p e s m args below meth c X hr => ?_)
  refine aw_lv (lv' := [(0, .ref (ad 758))]) rfl ?_
  unfold f_X12_moves at hf
  refine aw_aload_n X 0 dX12_moves_0 rfl rfl ?_
  refine aw_iconst X dX12_moves_1 ?_
  refine aw_putI X s_758 pX12_101 rfl (z_lit (x := 0) (by decide)) dX12_moves_2 ?_
  refine aw_aload_n X 0 dX12_moves_5 rfl rfl ?_
  refine aw_getI X s_758 fX12_234 rfl dX12_moves_6 (fun c1 => ?_)
  refine aw_if_ne X (tgt := 14) c1 dX12_moves_9 (by decide) (fun h2 => ?_) (fun h2 => ?_)
  · rw [if_neg h2] at hf
    refine aw_aload_n X 0 dX12_moves_14 rfl rfl ?_
    refine aw_aload_n X 0 dX12_moves_15 rfl rfl ?_
    refine aw_getR X s_758 fX12_63 rfl dX12_moves_16 ?_
    obtain ⟨q3, e4, hf⟩ := z_bd hf
    refine aw_callV X [.ref (ad 776)] [] [] cX12_363 s_758 ciX12 (C_X12_laysShares l D cA sa ad bs 776 s_776 (u2 σ 758 0 0) q3 e4) rfl ⟨(Nat.le_of_ble_eq_true rfl), (Nat.le_of_ble_eq_true rfl), (Nat.le_of_ble_eq_true rfl), (Nat.le_of_ble_eq_true rfl)⟩ rfl (Nat.le_of_ble_eq_true rfl) rfl dX12_moves_19 (fun p5 => ?_)
    refine aw_aload_n X 0 dX12_moves_22 rfl rfl ?_
    refine aw_aload_n X 0 dX12_moves_23 rfl rfl ?_
    refine aw_getR X s_758 fX12_63 rfl dX12_moves_24 ?_
    obtain ⟨q6, e7, hf⟩ := z_bd hf
    refine aw_callV X [.ref (ad 776)] [] [z_i q6.1] cX12_367 s_758 ciX12 (C_X12_bestWay l D cA sa ad bs 776 s_776 q3 q6 e7) rfl ⟨(Nat.le_of_ble_eq_true rfl), (Nat.le_of_ble_eq_true rfl), (Nat.le_of_ble_eq_true rfl), (Nat.le_of_ble_eq_true rfl)⟩ rfl (Nat.le_of_ble_eq_true rfl) rfl dX12_moves_27 (fun p8 => ?_)
    refine aw_iconst X dX12_moves_30 ?_
    refine aw_icmp_ne X (tgt := 36) p8 (z_lit (x := (-1)) (by decide)) dX12_moves_31 (by decide) (fun h9 => ?_) (fun h9 => ?_)
    · rw [if_neg h9] at hf
      refine aw_aload_n X 0 dX12_moves_36 rfl rfl ?_
      refine aw_aload_n X 0 dX12_moves_37 rfl rfl ?_
      refine aw_getI X s_758 fX12_237 rfl dX12_moves_38 (fun c10 => ?_)
      obtain ⟨q11, e12, hf⟩ := z_bd hf
      refine aw_callV X [z_i (q6.2 758 23)] [] [z_i q11] cX12_438 s_758 ciX12 (C_X12_power l D cA sa ad bs (q6.2 758 23) c10 q6.2 q11 e12) rfl ⟨(Nat.le_of_ble_eq_true rfl), (Nat.le_of_ble_eq_true rfl), (Nat.le_of_ble_eq_true rfl), (Nat.le_of_ble_eq_true rfl)⟩ rfl (Nat.le_of_ble_eq_true rfl) rfl dX12_moves_41 (fun p13 => ?_)
      refine aw_istore_n X [(1, z_i q11), (0, .ref (ad 758))] dX12_moves_44 rfl (by decide) rfl ?_
      refine aw_iconst X dX12_moves_45 ?_
      refine aw_istore_n X [(2, z_i 0), (1, z_i q11), (0, .ref (ad 758))] dX12_moves_46 rfl (by decide) rfl ?_
      refine aw_sub [2, 1, 0] rfl ?_
      exact A_X12_moves_47 X hr 100000 q11 p13 0 (z_lit (x := 0) (by decide)) q6.2 hf
    · rw [if_pos h9] at hf
      refine aw_iconst X dX12_moves_34 ?_
      obtain rfl := Option.some.inj hf
      exact aw_iret X (z_lit (x := (-1)) (by decide)) hr rfl dX12_moves_35
  · rw [if_pos h2] at hf
    refine aw_iconst X dX12_moves_12 ?_
    obtain rfl := Option.some.inj hf
    exact aw_iret X (z_lit (x := (-1)) (by decide)) hr rfl dX12_moves_13
