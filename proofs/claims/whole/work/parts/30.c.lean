-- SpeedDesk$Texts.readStep(LSpeedDesk$Step;)V
section S_X10_readStep
variable {p : Program} {l : Launch} {e : Env} {s : State} {m : MethodId} {args : Array Value} {below : List Frame} {meth : Method} {c : Code} {D : va_G} {cA : Nat → ClassId} {sa ad : Nat → Nat} {bs : Nat} {q : (Nat → Nat → Int)}
set_option maxHeartbeats 4000000 in
set_option maxRecDepth 100000 in
theorem A_X10_readStep_24 (X : AX p s m args meth c D cA sa bs cX10_readStep 5 RX10) (hr : meth.sig.returnType = none)  (σ : Nat → Nat → Int) (hf : f_X10_readStep_24 σ = some q) : AW p l e (ax_rm 7 0 0) s m args below meth c D cA ad bs 788 SHp 0 0 (ax_MQ below args s D cA ad bs 788 SHp 0 0 none True q) 5 24 [(0, .ref (ad 1))] [] σ := by
  unfold f_X10_readStep_24 at hf
  refine aw_aload_n X 0 dX10_readStep_24 rfl rfl ?_
  refine aw_getR X s_1 fX10_12 rfl dX10_readStep_25 ?_
  obtain ⟨q11, e12, hf⟩ := z_bd hf
  refine aw_callV X [] [] [] cX10_62 s_2 ciX9 (C_X9_refusePart l D cA sa ad bs σ q11 e12) rfl ⟨(Nat.le_of_ble_eq_true rfl), (Nat.le_of_ble_eq_true rfl), (Nat.le_of_ble_eq_true rfl), (Nat.le_of_ble_eq_true rfl)⟩ rfl (Nat.le_of_ble_eq_true rfl) rfl dX10_readStep_28 (fun p13 => ?_)
  obtain rfl := Option.some.inj hf
  exact aw_vret X trivial hr rfl dX10_readStep_31
set_option maxHeartbeats 4000000 in
set_option maxRecDepth 100000 in
theorem A_X10_readStep_69 (X : AX p s m args meth c D cA sa bs cX10_readStep 5 RX10) (hr : meth.sig.returnType = none) : ∀ (k : Nat) (a1 : Nat) (h_a1 : a1 ∈ ax_iX8) (v2 : Int) (c_v2 : Z_I v2) (v3 : Int) (c_v3 : Z_I v3) (v4 : Int) (c_v4 : Z_I v4) (σ : Nat → Nat → Int), f_X10_readStep_69 k a1 v2 v3 v4 σ = some q → AW p l e (ax_rm 7 0 0) s m args below meth c D cA ad bs 788 SHp 0 0 (ax_MQ below args s D cA ad bs 788 SHp 0 0 none True q) 5 69 [(0, .ref (ad 1)), (1, .ref (ad a1)), (2, z_i v2), (3, z_i v3), (4, z_i v4)] [] σ := by
  intro k
  induction k with
  | zero =>
    intro a1 h_a1 v2 c_v2 v3 c_v3 v4 c_v4 σ hf
    unfold f_X10_readStep_69 at hf
    cases hf
  | succ k ih =>
    intro a1 h_a1 v2 c_v2 v3 c_v3 v4 c_v4 σ hf
    unfold f_X10_readStep_69 at hf
    refine aw_iload X 4 dX10_readStep_69 rfl ?_
    refine aw_iload_n X 3 dX10_readStep_71 rfl rfl ?_
    refine aw_icmp_ge X (tgt := 125) c_v4 c_v3 dX10_readStep_72 (by decide) (fun h23 => ?_) (fun h23 => ?_)
    · rw [if_pos h23] at hf
      obtain rfl := Option.some.inj hf
      exact aw_vret X trivial hr rfl dX10_readStep_125
    · rw [if_neg h23] at hf
      refine aw_iload X 4 dX10_readStep_75 rfl ?_
      refine aw_aload_n X 1 dX10_readStep_77 rfl rfl ?_
      refine aw_getR X (sX8_0 a1 h_a1) fX10_168 rfl dX10_readStep_78 ?_
      refine aw_alenI X (x := 3) (sX8_1 a1 h_a1) rfl dX10_readStep_81 ?_
      refine aw_icmp_ge X (tgt := 125) c_v4 (z_lit (x := 3) (by decide)) dX10_readStep_82 (by decide) (fun h24 => ?_) (fun h24 => ?_)
      · rw [if_pos h24] at hf
        obtain rfl := Option.some.inj hf
        exact aw_vret X trivial hr rfl dX10_readStep_125
      · rw [if_neg h24] at hf
        refine aw_aload_n X 1 dX10_readStep_85 rfl rfl ?_
        refine aw_getR X (sX8_0 a1 h_a1) fX10_168 rfl dX10_readStep_86 ?_
        refine aw_iload X 4 dX10_readStep_89 rfl ?_
        refine aw_iload_n X 2 dX10_readStep_91 rfl rfl ?_
        refine aw_if_ne X (tgt := 108) c_v2 dX10_readStep_92 (by decide) (fun h25 => ?_) (fun h25 => ?_)
        · rw [if_neg h25] at hf
          refine aw_aload_n X 0 dX10_readStep_108 rfl rfl ?_
          refine aw_getR X s_1 fX10_12 rfl dX10_readStep_109 ?_
          refine aw_iconst X dX10_readStep_112 ?_
          refine aw_bipush X dX10_readStep_113 (by decide) ?_
          obtain ⟨q26, e27, hf⟩ := z_bd hf
          refine aw_callV X [z_i 0, z_i 9] [z_i v4, .ref (ad (a1 + 1))] [z_i q26.1, z_i v4, .ref (ad (a1 + 1))] cX10_102 s_2 ciX9 (C_X9_readNumber l D cA sa ad bs 0 (z_lit (x := 0) (by decide)) 9 (z_lit (x := 9) (by decide)) σ q26 e27) rfl ⟨(Nat.le_of_ble_eq_true rfl), (Nat.le_of_ble_eq_true rfl), (Nat.le_of_ble_eq_true rfl), (Nat.le_of_ble_eq_true rfl)⟩ rfl (Nat.le_of_ble_eq_true rfl) rfl dX10_readStep_115 (fun p28 => ?_)
          obtain ⟨g29, hf⟩ := z_gd hf
          refine aw_iast X (j := v4.toNat) (sX8_1 a1 h_a1) c_v4 g29.1 g29.2 rfl p28 dX10_readStep_118 ?_
          refine aw_iinc X 4 [(4, z_i (z_w (v4 + 1))), (0, .ref (ad 1)), (1, .ref (ad a1)), (2, z_i v2), (3, z_i v3)] dX10_readStep_119 rfl (by decide) rfl ?_
          refine aw_goto X (tgt := 69) dX10_readStep_122 (by decide) ?_
          refine aw_sub [1, 2, 3, 4, 0] rfl ?_
          exact ih a1 h_a1 v2 c_v2 v3 c_v3 (z_w (v4 + 1)) (z_w_in _) (u2 q26.2 (a1 + 1) v4.toNat q26.1) hf
        · rw [if_pos h25] at hf
          refine aw_aload_n X 0 dX10_readStep_95 rfl rfl ?_
          refine aw_getR X s_1 fX10_12 rfl dX10_readStep_96 ?_
          refine aw_iconst X dX10_readStep_99 ?_
          refine aw_bipush X dX10_readStep_100 (by decide) ?_
          obtain ⟨q30, e31, hf⟩ := z_bd hf
          refine aw_callV X [z_i 1, z_i 60] [z_i v4, .ref (ad (a1 + 1))] [z_i q30.1, z_i v4, .ref (ad (a1 + 1))] cX10_102 s_2 ciX9 (C_X9_readNumber l D cA sa ad bs 1 (z_lit (x := 1) (by decide)) 60 (z_lit (x := 60) (by decide)) σ q30 e31) rfl ⟨(Nat.le_of_ble_eq_true rfl), (Nat.le_of_ble_eq_true rfl), (Nat.le_of_ble_eq_true rfl), (Nat.le_of_ble_eq_true rfl)⟩ rfl (Nat.le_of_ble_eq_true rfl) rfl dX10_readStep_102 (fun p32 => ?_)
          refine aw_goto X (tgt := 118) dX10_readStep_105 (by decide) ?_
          obtain ⟨g33, hf⟩ := z_gd hf
          refine aw_iast X (j := v4.toNat) (sX8_1 a1 h_a1) c_v4 g33.1 g33.2 rfl p32 dX10_readStep_118 ?_
          refine aw_iinc X 4 [(4, z_i (z_w (v4 + 1))), (0, .ref (ad 1)), (1, .ref (ad a1)), (2, z_i v2), (3, z_i v3)] dX10_readStep_119 rfl (by decide) rfl ?_
          refine aw_goto X (tgt := 69) dX10_readStep_122 (by decide) ?_
          refine aw_sub [1, 2, 3, 4, 0] rfl ?_
          exact ih a1 h_a1 v2 c_v2 v3 c_v3 (z_w (v4 + 1)) (z_w_in _) (u2 q30.2 (a1 + 1) v4.toNat q30.1) hf
set_option maxHeartbeats 4000000 in
set_option maxRecDepth 100000 in
theorem A_X10_readStep_58 (X : AX p s m args meth c D cA sa bs cX10_readStep 5 RX10) (hr : meth.sig.returnType = none) (a1 : Nat) (h_a1 : a1 ∈ ax_iX8) (v2 : Int) (c_v2 : Z_I v2) (t0 : Int) (c_t0 : Z_L t0) (t1 : Int) (c_t1 : Z_I t1) (t2 : Int) (c_t2 : Z_I t2) (t3 : Int) (c_t3 : Z_I t3) (t4 : Int) (c_t4 : Z_I t4) (b5 : Nat) (h_b5 : b5 ∈ ax_iX8) (σ : Nat → Nat → Int) (hf : f_X10_readStep_58 a1 v2 t0 t1 t2 t3 t4 b5 σ = some q) : AW p l e (ax_rm 7 0 0) s m args below meth c D cA ad bs 788 SHp 0 0 (ax_MQ below args s D cA ad bs 788 SHp 0 0 none True q) 5 58 [(0, .ref (ad 1)), (1, .ref (ad a1)), (2, z_i v2)] [z_v t0, z_i t1, z_i t2, z_i t3, z_i t4, .ref (ad b5)] σ := by
  unfold f_X10_readStep_58 at hf
  obtain ⟨q17, e18, hf⟩ := z_bd hf
  refine aw_callV X [z_i t4, z_i t3, z_i t2, z_i t1, z_v t0] [] [] cX10_158 (sX8_0 b5 h_b5) ciX8 (C_X8_put l D cA sa ad bs b5 h_b5 t4 c_t4 t3 c_t3 t2 c_t2 t1 c_t1 t0 c_t0 σ q17 e18) rfl ⟨(Nat.le_of_ble_eq_true rfl), (Nat.le_of_ble_eq_true rfl), (Nat.le_of_ble_eq_true rfl), (Nat.le_of_ble_eq_true rfl)⟩ rfl (Nat.le_of_ble_eq_true rfl) rfl dX10_readStep_58 (fun p19 => ?_)
  refine aw_aload_n X 1 dX10_readStep_61 rfl rfl ?_
  obtain ⟨q20, e21, hf⟩ := z_bd hf
  refine aw_callV X [] [] [z_i q20] cX10_164 (sX8_0 a1 h_a1) ciX8 (C_X8_numbersTold l D cA sa ad bs a1 h_a1 q17 q20 e21) rfl ⟨(Nat.le_of_ble_eq_true rfl), (Nat.le_of_ble_eq_true rfl), (Nat.le_of_ble_eq_true rfl), (Nat.le_of_ble_eq_true rfl)⟩ rfl (Nat.le_of_ble_eq_true rfl) rfl dX10_readStep_62 (fun p22 => ?_)
  refine aw_istore_n X [(3, z_i q20), (0, .ref (ad 1)), (1, .ref (ad a1)), (2, z_i v2)] dX10_readStep_65 rfl (by decide) rfl ?_
  refine aw_iconst X dX10_readStep_66 ?_
  refine aw_istore X [(4, z_i 0), (3, z_i q20), (0, .ref (ad 1)), (1, .ref (ad a1)), (2, z_i v2)] dX10_readStep_67 (by decide) rfl ?_
  refine aw_sub [2, 3, 4, 1, 0] rfl ?_
  exact A_X10_readStep_69 X hr 100000 a1 h_a1 v2 c_v2 q20 p22 0 (z_lit (x := 0) (by decide)) q17 hf
set_option maxHeartbeats 4000000 in
set_option maxRecDepth 100000 in
theorem A_X10_readStep_47 (X : AX p s m args meth c D cA sa bs cX10_readStep 5 RX10) (hr : meth.sig.returnType = none) (a1 : Nat) (h_a1 : a1 ∈ ax_iX8) (v2 : Int) (c_v2 : Z_I v2) (t0 : Int) (c_t0 : Z_I t0) (t1 : Int) (c_t1 : Z_I t1) (t2 : Int) (c_t2 : Z_I t2) (t3 : Int) (c_t3 : Z_I t3) (b4 : Nat) (h_b4 : b4 ∈ ax_iX8) (σ : Nat → Nat → Int) (hf : f_X10_readStep_47 a1 v2 t0 t1 t2 t3 b4 σ = some q) : AW p l e (ax_rm 7 0 0) s m args below meth c D cA ad bs 788 SHp 0 0 (ax_MQ below args s D cA ad bs 788 SHp 0 0 none True q) 5 47 [(0, .ref (ad 1)), (1, .ref (ad a1)), (2, z_i v2)] [z_i t0, z_i t1, z_i t2, z_i t3, .ref (ad b4)] σ := by
  unfold f_X10_readStep_47 at hf
  refine aw_aload_n X 0 dX10_readStep_47 rfl rfl ?_
  refine aw_getR X s_1 fX10_12 rfl dX10_readStep_48 ?_
  obtain ⟨q14, e15, hf⟩ := z_bd hf
  refine aw_callV X [] [z_i t0, z_i t1, z_i t2, z_i t3, .ref (ad b4)] [z_v q14.1, z_i t0, z_i t1, z_i t2, z_i t3, .ref (ad b4)] cX10_65 s_2 ciX9 (C_X9_readWord l D cA sa ad bs σ q14 e15) rfl ⟨(Nat.le_of_ble_eq_true rfl), (Nat.le_of_ble_eq_true rfl), (Nat.le_of_ble_eq_true rfl), (Nat.le_of_ble_eq_true rfl)⟩ rfl (Nat.le_of_ble_eq_true rfl) rfl dX10_readStep_51 (fun p16 => ?_)
  refine aw_goto X (tgt := 58) dX10_readStep_54 (by decide) ?_
  exact A_X10_readStep_58 X hr a1 h_a1 v2 c_v2 q14.1 p16 t0 c_t0 t1 c_t1 t2 c_t2 t3 c_t3 b4 h_b4 q14.2 hf
end S_X10_readStep
set_option maxHeartbeats 4000000 in
set_option maxRecDepth 100000 in
theorem C_X10_readStep (l : Launch) (D : va_G) (cA : Nat → ClassId) (sa ad : Nat → Nat) (bs : Nat) (a1 : Nat) (h_a1 : a1 ∈ ax_iX8) (σ : Nat → Nat → Int) (q : (Nat → Nat → Int)) (hf : f_X10_readStep a1 σ = some q) : AM l D cA sa ad bs 788 SHp yX10_readStep cX10_readStep 5 none 7 [.ref (ad 1), .ref (ad a1)] σ none True q := by
  refine am_of (by decide +kernel) (Nat.le_of_ble_eq_true rfl) (fun p e s m args below meth c X hr => ?_)
  refine aw_lv (lv' := [(0, .ref (ad 1)), (1, .ref (ad a1))]) rfl ?_
  unfold f_X10_readStep at hf
  refine aw_aload_n X 0 dX10_readStep_0 rfl rfl ?_
  refine aw_getR X s_1 fX10_12 rfl dX10_readStep_1 ?_
  obtain ⟨q1, e2, hf⟩ := z_bd hf
  refine aw_callV X [] [] [z_v q1.1] cX10_65 s_2 ciX9 (C_X9_readWord l D cA sa ad bs σ q1 e2) rfl ⟨(Nat.le_of_ble_eq_true rfl), (Nat.le_of_ble_eq_true rfl), (Nat.le_of_ble_eq_true rfl), (Nat.le_of_ble_eq_true rfl)⟩ rfl (Nat.le_of_ble_eq_true rfl) rfl dX10_readStep_4 (fun p3 => ?_)
  obtain ⟨q4, e5, hf⟩ := z_bd hf
  refine aw_callS X [z_v q1.1] [] [z_i q4] cX10_69 (C_X10_wordNumber l D cA sa ad bs q1.1 p3 q1.2 q4 e5) rfl ⟨(Nat.le_of_ble_eq_true rfl), (Nat.le_of_ble_eq_true rfl), (Nat.le_of_ble_eq_true rfl), (Nat.le_of_ble_eq_true rfl)⟩ rfl (Nat.le_of_ble_eq_true rfl) rfl dX10_readStep_7 (fun p6 => ?_)
  refine aw_bipush X dX10_readStep_10 (by decide) ?_
  refine aw_isub X dX10_readStep_12 ?_
  refine aw_istore_n X [(2, z_i (z_w (q4 - 9))), (0, .ref (ad 1)), (1, .ref (ad a1))] dX10_readStep_13 rfl (by decide) rfl ?_
  refine aw_iload_n X 0 dX10_readStep_14 rfl rfl ?_
  refine aw_if_lt X (tgt := 24) (z_w_in _) dX10_readStep_15 (by decide) (fun h7 => ?_) (fun h7 => ?_)
  · rw [if_pos h7] at hf
    refine aw_sub [1] rfl ?_
    exact A_X10_readStep_24 X hr q1.2 hf
  · rw [if_neg h7] at hf
    refine aw_iload_n X 0 dX10_readStep_18 rfl rfl ?_
    refine aw_bipush X dX10_readStep_19 (by decide) ?_
    refine aw_icmp_le X (tgt := 32) (z_w_in _) (z_lit (x := 6) (by decide)) dX10_readStep_21 (by decide) (fun h8 => ?_) (fun h8 => ?_)
    · rw [if_pos h8] at hf
      refine aw_aload_n X 2 dX10_readStep_32 rfl rfl ?_
      refine aw_iload_n X 0 dX10_readStep_33 rfl rfl ?_
      refine aw_iconst X dX10_readStep_34 ?_
      refine aw_iconst X dX10_readStep_35 ?_
      refine aw_iconst X dX10_readStep_36 ?_
      refine aw_iload_n X 0 dX10_readStep_37 rfl rfl ?_
      refine aw_iconst X dX10_readStep_38 ?_
      refine aw_icmp_eq X (tgt := 47) (z_w_in _) (z_lit (x := 2) (by decide)) dX10_readStep_39 (by decide) (fun h9 => ?_) (fun h9 => ?_)
      · rw [if_pos h9] at hf
        refine aw_sub [1, 2, 0] rfl ?_
        exact A_X10_readStep_47 X hr a1 h_a1 (z_w (q4 - 9)) (z_w_in _) 0 (z_lit (x := 0) (by decide)) 0 (z_lit (x := 0) (by decide)) 0 (z_lit (x := 0) (by decide)) (z_w (q4 - 9)) (z_w_in _) a1 h_a1 q1.2 hf
      · rw [if_neg h9] at hf
        refine aw_iload_n X 0 dX10_readStep_42 rfl rfl ?_
        refine aw_iconst X dX10_readStep_43 ?_
        refine aw_icmp_ne X (tgt := 57) (z_w_in _) (z_lit (x := 3) (by decide)) dX10_readStep_44 (by decide) (fun h10 => ?_) (fun h10 => ?_)
        · rw [if_neg h10] at hf
          refine aw_lconst X (x := 0) dX10_readStep_57 (by decide) ?_
          refine aw_sub [1, 2, 0] rfl ?_
          exact A_X10_readStep_58 X hr a1 h_a1 (z_w (q4 - 9)) (z_w_in _) 0 (z_litL (x := 0) (by decide)) 0 (z_lit (x := 0) (by decide)) 0 (z_lit (x := 0) (by decide)) 0 (z_lit (x := 0) (by decide)) (z_w (q4 - 9)) (z_w_in _) a1 h_a1 q1.2 hf
        · rw [if_pos h10] at hf
          refine aw_sub [1, 2, 0] rfl ?_
          exact A_X10_readStep_47 X hr a1 h_a1 (z_w (q4 - 9)) (z_w_in _) 0 (z_lit (x := 0) (by decide)) 0 (z_lit (x := 0) (by decide)) 0 (z_lit (x := 0) (by decide)) (z_w (q4 - 9)) (z_w_in _) a1 h_a1 q1.2 hf
    · rw [if_neg h8] at hf
      refine aw_sub [1] rfl ?_
      exact A_X10_readStep_24 X hr q1.2 hf
-- SpeedDesk$Texts.readScript(LSpeedDesk$Script;)I
section S_X10_readScript
variable {p : Program} {l : Launch} {e : Env} {s : State} {m : MethodId} {args : Array Value} {below : List Frame} {meth : Method} {c : Code} {D : va_G} {cA : Nat → ClassId} {sa ad : Nat → Nat} {bs : Nat} {q : (Int × (Nat → Nat → Int))}
set_option maxHeartbeats 4000000 in
set_option maxRecDepth 100000 in
theorem A_X10_readScript_75 (X : AX p s m args meth c D cA sa bs cX10_readScript 4 RX10) (hr : meth.sig.returnType = (some .int)) (v2 : Int) (c_v2 : Z_I v2) (σ : Nat → Nat → Int) (hf : f_X10_readScript_75 v2 σ = some q) : AW p l e (ax_rm 8 0 0) s m args below meth c D cA ad bs 788 SHp 0 0 (ax_MQ below args s D cA ad bs 788 SHp 0 0 (some (z_i q.1)) (Z_I q.1) q.2) 4 75 [(0, .ref (ad 1)), (2, z_i v2)] [] σ := by
  unfold f_X10_readScript_75 at hf
  refine aw_iload_n X 1 dX10_readScript_75 rfl rfl ?_
  refine aw_if_eq X (tgt := 86) c_v2 dX10_readScript_76 (by decide) (fun h18 => ?_) (fun h18 => ?_)
  · rw [if_pos h18] at hf
    refine aw_aload_n X 0 dX10_readScript_86 rfl rfl ?_
    refine aw_getR X s_1 fX10_12 rfl dX10_readScript_87 ?_
    refine aw_getI X s_2 fX10_48 rfl dX10_readScript_90 (fun c19 => ?_)
    obtain rfl := Option.some.inj hf
    exact aw_iret X c19 hr rfl dX10_readScript_93
  · rw [if_neg h18] at hf
    refine aw_aload_n X 0 dX10_readScript_79 rfl rfl ?_
    refine aw_getR X s_1 fX10_12 rfl dX10_readScript_80 ?_
    obtain ⟨q20, e21, hf⟩ := z_bd hf
    refine aw_callV X [] [] [] cX10_62 s_2 ciX9 (C_X9_refusePart l D cA sa ad bs σ q20 e21) rfl ⟨(Nat.le_of_ble_eq_true rfl), (Nat.le_of_ble_eq_true rfl), (Nat.le_of_ble_eq_true rfl), (Nat.le_of_ble_eq_true rfl)⟩ rfl (Nat.le_of_ble_eq_true rfl) rfl dX10_readScript_83 (fun p22 => ?_)
    refine aw_aload_n X 0 dX10_readScript_86 rfl rfl ?_
    refine aw_getR X s_1 fX10_12 rfl dX10_readScript_87 ?_
    refine aw_getI X s_2 fX10_48 rfl dX10_readScript_90 (fun c23 => ?_)
    obtain rfl := Option.some.inj hf
    exact aw_iret X c23 hr rfl dX10_readScript_93
set_option maxHeartbeats 4000000 in
set_option maxRecDepth 100000 in
theorem A_X10_readScript_16 (X : AX p s m args meth c D cA sa bs cX10_readScript 4 RX10) (hr : meth.sig.returnType = (some .int)) : ∀ (k : Nat) (a1 : Nat) (h_a1 : a1 ∈ ax_iX6) (v2 : Int) (c_v2 : Z_I v2) (v3 : Int) (c_v3 : Z_I v3) (σ : Nat → Nat → Int), f_X10_readScript_16 k a1 v2 v3 σ = some q → AW p l e (ax_rm 8 0 0) s m args below meth c D cA ad bs 788 SHp 0 0 (ax_MQ below args s D cA ad bs 788 SHp 0 0 (some (z_i q.1)) (Z_I q.1) q.2) 4 16 [(0, .ref (ad 1)), (1, .ref (ad a1)), (2, z_i v2), (3, z_i v3)] [] σ := by
  intro k
  induction k with
  | zero =>
    intro a1 h_a1 v2 c_v2 v3 c_v3 σ hf
    unfold f_X10_readScript_16 at hf
    cases hf
  | succ k ih =>
    intro a1 h_a1 v2 c_v2 v3 c_v3 σ hf
    unfold f_X10_readScript_16 at hf
    refine aw_iload_n X 2 dX10_readScript_16 rfl rfl ?_
    refine aw_if_eq X (tgt := 75) c_v2 dX10_readScript_17 (by decide) (fun h4 => ?_) (fun h4 => ?_)
    · rw [if_pos h4] at hf
      refine aw_sub [0, 2] rfl ?_
      exact A_X10_readScript_75 X hr v2 c_v2 σ hf
    · rw [if_neg h4] at hf
      refine aw_iload_n X 3 dX10_readScript_20 rfl rfl ?_
      refine aw_bipush X dX10_readScript_21 (by decide) ?_
      refine aw_icmp_ge X (tgt := 75) c_v3 (z_lit (x := 12) (by decide)) dX10_readScript_23 (by decide) (fun h5 => ?_) (fun h5 => ?_)
      · rw [if_pos h5] at hf
        refine aw_sub [0, 2] rfl ?_
        exact A_X10_readScript_75 X hr v2 c_v2 σ hf
      · rw [if_neg h5] at hf
        refine aw_aload_n X 0 dX10_readScript_26 rfl rfl ?_
        refine aw_aload_n X 1 dX10_readScript_27 rfl rfl ?_
        refine aw_getR X (sX6_0 a1 h_a1) fX10_54 rfl dX10_readScript_28 ?_
        refine aw_iload_n X 3 dX10_readScript_31 rfl rfl ?_
        obtain ⟨g6, hf⟩ := z_gd hf
        refine aw_aald X (kd := 2) (sX6_1 a1 h_a1) (by decide) c_v3 g6.1 g6.2 (tg_steps a1 _ (by omega)) dX10_readScript_32 ?_
        obtain ⟨q7, e8, hf⟩ := z_bd hf
        refine aw_callV X [.ref (ad (a1 + 2 + 2 * v3.toNat))] [] [] cX10_58 s_1 ciX10 (C_X10_readStep l D cA sa ad bs (a1 + 2 + 2 * v3.toNat) (sX6_step a1 h_a1 v3.toNat (by omega)) σ q7 e8) rfl ⟨(Nat.le_of_ble_eq_true rfl), (Nat.le_of_ble_eq_true rfl), (Nat.le_of_ble_eq_true rfl), (Nat.le_of_ble_eq_true rfl)⟩ rfl (Nat.le_of_ble_eq_true rfl) rfl dX10_readScript_33 (fun p9 => ?_)
        refine aw_aload_n X 1 dX10_readScript_36 rfl rfl ?_
        refine aw_iload_n X 3 dX10_readScript_37 rfl rfl ?_
        refine aw_iconst X dX10_readScript_38 ?_
        refine aw_iadd X dX10_readScript_39 ?_
        refine aw_putI X (sX6_0 a1 h_a1) pX10_51 rfl (z_w_in _) dX10_readScript_40 ?_
        refine aw_aload_n X 0 dX10_readScript_43 rfl rfl ?_
        refine aw_getR X s_1 fX10_12 rfl dX10_readScript_44 ?_
        obtain ⟨q10, e11, hf⟩ := z_bd hf
        refine aw_callV X [] [] [z_i q10] cX10_30 s_2 ciX9 (C_X9_isSound l D cA sa ad bs (u2 q7 a1 1 (z_w (v3 + 1))) q10 e11) rfl ⟨(Nat.le_of_ble_eq_true rfl), (Nat.le_of_ble_eq_true rfl), (Nat.le_of_ble_eq_true rfl), (Nat.le_of_ble_eq_true rfl)⟩ rfl (Nat.le_of_ble_eq_true rfl) rfl dX10_readScript_47 (fun p12 => ?_)
        refine aw_if_eq X (tgt := 67) (z_zI p12) dX10_readScript_50 (by decide) (fun h13 => ?_) (fun h13 => ?_)
        · rw [if_pos h13] at hf
          refine aw_iconst X dX10_readScript_67 ?_
          refine aw_istore_n X [(2, z_i 0), (0, .ref (ad 1)), (1, .ref (ad a1)), (3, z_i v3)] dX10_readScript_68 rfl (by decide) rfl ?_
          refine aw_iinc X 3 [(3, z_i (z_w (v3 + 1))), (2, z_i 0), (0, .ref (ad 1)), (1, .ref (ad a1))] dX10_readScript_69 rfl (by decide) rfl ?_
          refine aw_goto X (tgt := 16) dX10_readScript_72 (by decide) ?_
          refine aw_sub [2, 3, 1, 0] rfl ?_
          exact ih a1 h_a1 0 (z_lit (x := 0) (by decide)) (z_w (v3 + 1)) (z_w_in _) (u2 q7 a1 1 (z_w (v3 + 1))) hf
        · rw [if_neg h13] at hf
          refine aw_aload_n X 0 dX10_readScript_53 rfl rfl ?_
          refine aw_getR X s_1 fX10_12 rfl dX10_readScript_54 ?_
          obtain ⟨q14, e15, hf⟩ := z_bd hf
          refine aw_callV X [] [] [z_i q14.1] cX10_34 s_2 ciX9 (C_X9_readSemicolon l D cA sa ad bs (u2 q7 a1 1 (z_w (v3 + 1))) q14 e15) rfl ⟨(Nat.le_of_ble_eq_true rfl), (Nat.le_of_ble_eq_true rfl), (Nat.le_of_ble_eq_true rfl), (Nat.le_of_ble_eq_true rfl)⟩ rfl (Nat.le_of_ble_eq_true rfl) rfl dX10_readScript_57 (fun p16 => ?_)
          refine aw_if_eq X (tgt := 67) (z_zI p16) dX10_readScript_60 (by decide) (fun h17 => ?_) (fun h17 => ?_)
          · simp only [if_pos h17] at hf
            refine aw_iconst X dX10_readScript_67 ?_
            refine aw_istore_n X [(2, z_i 0), (0, .ref (ad 1)), (1, .ref (ad a1)), (3, z_i v3)] dX10_readScript_68 rfl (by decide) rfl ?_
            refine aw_iinc X 3 [(3, z_i (z_w (v3 + 1))), (2, z_i 0), (0, .ref (ad 1)), (1, .ref (ad a1))] dX10_readScript_69 rfl (by decide) rfl ?_
            refine aw_goto X (tgt := 16) dX10_readScript_72 (by decide) ?_
            refine aw_sub [2, 3, 1, 0] rfl ?_
            exact ih a1 h_a1 0 (z_lit (x := 0) (by decide)) (z_w (v3 + 1)) (z_w_in _) q14.2 hf
          · simp only [if_neg h17] at hf
            refine aw_iconst X dX10_readScript_63 ?_
            refine aw_goto X (tgt := 68) dX10_readScript_64 (by decide) ?_
            refine aw_istore_n X [(2, z_i 1), (0, .ref (ad 1)), (1, .ref (ad a1)), (3, z_i v3)] dX10_readScript_68 rfl (by decide) rfl ?_
            refine aw_iinc X 3 [(3, z_i (z_w (v3 + 1))), (2, z_i 1), (0, .ref (ad 1)), (1, .ref (ad a1))] dX10_readScript_69 rfl (by decide) rfl ?_
            refine aw_goto X (tgt := 16) dX10_readScript_72 (by decide) ?_
            refine aw_sub [2, 3, 1, 0] rfl ?_
            exact ih a1 h_a1 1 (z_lit (x := 1) (by decide)) (z_w (v3 + 1)) (z_w_in _) q14.2 hf
end S_X10_readScript
set_option maxHeartbeats 4000000 in
set_option maxRecDepth 100000 in
theorem C_X10_readScript (l : Launch) (D : va_G) (cA : Nat → ClassId) (sa ad : Nat → Nat) (bs : Nat) (a1 : Nat) (h_a1 : a1 ∈ ax_iX6) (σ : Nat → Nat → Int) (q : (Int × (Nat → Nat → Int))) (hf : f_X10_readScript a1 σ = some q) : AM l D cA sa ad bs 788 SHp yX10_readScript cX10_readScript 4 (some .int) 8 [.ref (ad 1), .ref (ad a1)] σ (some (z_i q.1)) (Z_I q.1) q.2 := by
  refine am_of (by decide +kernel) (Nat.le_of_ble_eq_true rfl) (fun p e s m args below meth c X hr => ?_)
  refine aw_lv (lv' := [(0, .ref (ad 1)), (1, .ref (ad a1))]) rfl ?_
  unfold f_X10_readScript at hf
  refine aw_aload_n X 0 dX10_readScript_0 rfl rfl ?_
  refine aw_getR X s_1 fX10_12 rfl dX10_readScript_1 ?_
  obtain ⟨q1, e2, hf⟩ := z_bd hf
  refine aw_callV X [] [] [] cX10_18 s_2 ciX9 (C_X9_rewind l D cA sa ad bs σ q1 e2) rfl ⟨(Nat.le_of_ble_eq_true rfl), (Nat.le_of_ble_eq_true rfl), (Nat.le_of_ble_eq_true rfl), (Nat.le_of_ble_eq_true rfl)⟩ rfl (Nat.le_of_ble_eq_true rfl) rfl dX10_readScript_4 (fun p3 => ?_)
  refine aw_aload_n X 1 dX10_readScript_7 rfl rfl ?_
  refine aw_iconst X dX10_readScript_8 ?_
  refine aw_putI X (sX6_0 a1 h_a1) pX10_51 rfl (z_lit (x := 0) (by decide)) dX10_readScript_9 ?_
  refine aw_iconst X dX10_readScript_12 ?_
  refine aw_istore_n X [(2, z_i 1), (0, .ref (ad 1)), (1, .ref (ad a1))] dX10_readScript_13 rfl (by decide) rfl ?_
  refine aw_iconst X dX10_readScript_14 ?_
  refine aw_istore_n X [(3, z_i 0), (2, z_i 1), (0, .ref (ad 1)), (1, .ref (ad a1))] dX10_readScript_15 rfl (by decide) rfl ?_
  refine aw_sub [2, 3, 1, 0] rfl ?_
  exact A_X10_readScript_16 X hr 100000 a1 h_a1 1 (z_lit (x := 1) (by decide)) 0 (z_lit (x := 0) (by decide)) (u2 q1 a1 1 0) hf
-- SpeedDesk$Texts.readAsker()J
section S_X10_readAsker
variable {p : Program} {l : Launch} {e : Env} {s : State} {m : MethodId} {args : Array Value} {below : List Frame} {meth : Method} {c : Code} {D : va_G} {cA : Nat → ClassId} {sa ad : Nat → Nat} {bs : Nat} {q : (Int × (Nat → Nat → Int))}
set_option maxHeartbeats 4000000 in
set_option maxRecDepth 100000 in
theorem A_X10_readAsker_42 (X : AX p s m args meth c D cA sa bs cX10_readAsker 3 RX10) (hr : meth.sig.returnType = (some .long)) (v1 : Int) (c_v1 : Z_L v1) (σ : Nat → Nat → Int) (hf : f_X10_readAsker_42 v1 σ = some q) : AW p l e (ax_rm 3 0 0) s m args below meth c D cA ad bs 788 SHp 0 0 (ax_MQ below args s D cA ad bs 788 SHp 0 0 (some (z_v q.1)) (Z_L q.1) q.2) 3 42 [(0, .ref (ad 1)), (1, z_v v1)] [] σ := by
  unfold f_X10_readAsker_42 at hf
  refine aw_aload_n X 0 dX10_readAsker_42 rfl rfl ?_
  refine aw_getR X s_1 fX10_12 rfl dX10_readAsker_43 ?_
  obtain ⟨q18, e19, hf⟩ := z_bd hf
  refine aw_callV X [] [] [z_i q18] cX10_30 s_2 ciX9 (C_X9_isSound l D cA sa ad bs σ q18 e19) rfl ⟨(Nat.le_of_ble_eq_true rfl), (Nat.le_of_ble_eq_true rfl), (Nat.le_of_ble_eq_true rfl), (Nat.le_of_ble_eq_true rfl)⟩ rfl (Nat.le_of_ble_eq_true rfl) rfl dX10_readAsker_46 (fun p20 => ?_)
  refine aw_if_eq X (tgt := 56) (z_zI p20) dX10_readAsker_49 (by decide) (fun h21 => ?_) (fun h21 => ?_)
  · rw [if_pos h21] at hf
    refine aw_lconst X (x := 0) dX10_readAsker_56 (by decide) ?_
    obtain rfl := Option.some.inj hf
    exact aw_lret X (z_litL (x := 0) (by decide)) hr rfl dX10_readAsker_57
  · rw [if_neg h21] at hf
    refine aw_lload_n X 1 dX10_readAsker_52 rfl rfl ?_
    refine aw_goto X (tgt := 57) dX10_readAsker_53 (by decide) ?_
    obtain rfl := Option.some.inj hf
    exact aw_lret X c_v1 hr rfl dX10_readAsker_57
end S_X10_readAsker
set_option maxHeartbeats 4000000 in
set_option maxRecDepth 100000 in
theorem C_X10_readAsker (l : Launch) (D : va_G) (cA : Nat → ClassId) (sa ad : Nat → Nat) (bs : Nat)  (σ : Nat → Nat → Int) (q : (Int × (Nat → Nat → Int))) (hf : f_X10_readAsker σ = some q) : AM l D cA sa ad bs 788 SHp yX10_readAsker cX10_readAsker 3 (some .long) 3 [.ref (ad 1)] σ (some (z_v q.1)) (Z_L q.1) q.2 := by
  refine am_of (by decide +kernel) (Nat.le_of_ble_eq_true rfl) (fun p e s m args below meth c X hr => ?_)
  refine aw_lv (lv' := [(0, .ref (ad 1))]) rfl ?_
  unfold f_X10_readAsker at hf
  refine aw_aload_n X 0 dX10_readAsker_0 rfl rfl ?_
  refine aw_getR X s_1 fX10_12 rfl dX10_readAsker_1 ?_
  obtain ⟨q1, e2, hf⟩ := z_bd hf
  refine aw_callV X [] [] [] cX10_18 s_2 ciX9 (C_X9_rewind l D cA sa ad bs σ q1 e2) rfl ⟨(Nat.le_of_ble_eq_true rfl), (Nat.le_of_ble_eq_true rfl), (Nat.le_of_ble_eq_true rfl), (Nat.le_of_ble_eq_true rfl)⟩ rfl (Nat.le_of_ble_eq_true rfl) rfl dX10_readAsker_4 (fun p3 => ?_)
  refine aw_aload_n X 0 dX10_readAsker_7 rfl rfl ?_
  refine aw_getR X s_1 fX10_12 rfl dX10_readAsker_8 ?_
  obtain ⟨q4, e5, hf⟩ := z_bd hf
  refine aw_callV X [] [] [z_v q4.1] cX10_65 s_2 ciX9 (C_X9_readWord l D cA sa ad bs q1 q4 e5) rfl ⟨(Nat.le_of_ble_eq_true rfl), (Nat.le_of_ble_eq_true rfl), (Nat.le_of_ble_eq_true rfl), (Nat.le_of_ble_eq_true rfl)⟩ rfl (Nat.le_of_ble_eq_true rfl) rfl dX10_readAsker_11 (fun p6 => ?_)
  refine aw_lstore_n X [(1, z_v q4.1), (0, .ref (ad 1))] dX10_readAsker_14 rfl (by decide) rfl ?_
  refine aw_aload_n X 1 dX10_readAsker_15 rfl rfl ?_
  refine aw_getR X s_1 fX10_12 rfl dX10_readAsker_16 ?_
  obtain ⟨q7, e8, hf⟩ := z_bd hf
  refine aw_callV X [] [] [z_i q7] cX10_30 s_2 ciX9 (C_X9_isSound l D cA sa ad bs q4.2 q7 e8) rfl ⟨(Nat.le_of_ble_eq_true rfl), (Nat.le_of_ble_eq_true rfl), (Nat.le_of_ble_eq_true rfl), (Nat.le_of_ble_eq_true rfl)⟩ rfl (Nat.le_of_ble_eq_true rfl) rfl dX10_readAsker_19 (fun p9 => ?_)
  refine aw_if_eq X (tgt := 42) (z_zI p9) dX10_readAsker_22 (by decide) (fun h10 => ?_) (fun h10 => ?_)
  · rw [if_pos h10] at hf
    refine aw_sub [1, 0] rfl ?_
    exact A_X10_readAsker_42 X hr q4.1 p6 q4.2 hf
  · rw [if_neg h10] at hf
    refine aw_aload_n X 1 dX10_readAsker_25 rfl rfl ?_
    refine aw_getR X s_1 fX10_12 rfl dX10_readAsker_26 ?_
    obtain ⟨q11, e12, hf⟩ := z_bd hf
    refine aw_callV X [] [] [z_i q11.1] cX10_34 s_2 ciX9 (C_X9_readSemicolon l D cA sa ad bs q4.2 q11 e12) rfl ⟨(Nat.le_of_ble_eq_true rfl), (Nat.le_of_ble_eq_true rfl), (Nat.le_of_ble_eq_true rfl), (Nat.le_of_ble_eq_true rfl)⟩ rfl (Nat.le_of_ble_eq_true rfl) rfl dX10_readAsker_29 (fun p13 => ?_)
    refine aw_if_eq X (tgt := 42) (z_zI p13) dX10_readAsker_32 (by decide) (fun h14 => ?_) (fun h14 => ?_)
    · rw [if_pos h14] at hf
      refine aw_sub [1, 0] rfl ?_
      exact A_X10_readAsker_42 X hr q4.1 p6 q11.2 hf
    · rw [if_neg h14] at hf
      refine aw_aload_n X 1 dX10_readAsker_35 rfl rfl ?_
      refine aw_getR X s_1 fX10_12 rfl dX10_readAsker_36 ?_
      obtain ⟨q15, e16, hf⟩ := z_bd hf
      refine aw_callV X [] [] [] cX10_62 s_2 ciX9 (C_X9_refusePart l D cA sa ad bs q11.2 q15 e16) rfl ⟨(Nat.le_of_ble_eq_true rfl), (Nat.le_of_ble_eq_true rfl), (Nat.le_of_ble_eq_true rfl), (Nat.le_of_ble_eq_true rfl)⟩ rfl (Nat.le_of_ble_eq_true rfl) rfl dX10_readAsker_39 (fun p17 => ?_)
      refine aw_sub [1, 0] rfl ?_
      exact A_X10_readAsker_42 X hr q4.1 p6 q15 hf
-- SpeedDesk$Acts.tickRefusal(LSpeedDesk$Chip;LSpeedDesk$State;I)I
section S_X0_tickRefusal
variable {p : Program} {l : Launch} {e : Env} {s : State} {m : MethodId} {args : Array Value} {below : List Frame} {meth : Method} {c : Code} {D : va_G} {cA : Nat → ClassId} {sa ad : Nat → Nat} {bs : Nat} {q : Int}

end S_X0_tickRefusal
set_option maxHeartbeats 4000000 in
set_option maxRecDepth 100000 in
theorem C_X0_tickRefusal (l : Launch) (D : va_G) (cA : Nat → ClassId) (sa ad : Nat → Nat) (bs : Nat) (a1 : Nat) (h_a1 : a1 ∈ ax_iX1) (a2 : Nat) (h_a2 : a2 ∈ ax_iX7) (v3 : Int) (c_v3 : Z_I v3) (σ : Nat → Nat → Int) (q : Int) (hf : f_X0_tickRefusal a1 a2 v3 σ = some q) : AM l D cA sa ad bs 788 SHp yX0_tickRefusal cX0_tickRefusal 4 (some .int) 1 [.ref (ad 742), .ref (ad a1), .ref (ad a2), z_i v3] σ (some (z_i q)) (Z_I q) σ := by
  refine am_of (by decide +kernel) (Nat.le_of_ble_eq_true rfl) (fun p e s m args below meth c X hr => ?_)
  refine aw_lv (lv' := [(0, .ref (ad 742)), (1, .ref (ad a1)), (2, .ref (ad a2)), (3, z_i v3)]) rfl ?_
  unfold f_X0_tickRefusal at hf
  refine aw_aload_n X 1 dX0_tickRefusal_0 rfl rfl ?_
  obtain ⟨q1, e2, hf⟩ := z_bd hf
  refine aw_callV X [] [] [z_i q1] cX0_98 (sX1_0 a1 h_a1) ciX1 (C_X1_isTold l D cA sa ad bs a1 h_a1 σ q1 e2) rfl ⟨(Nat.le_of_ble_eq_true rfl), (Nat.le_of_ble_eq_true rfl), (Nat.le_of_ble_eq_true rfl), (Nat.le_of_ble_eq_true rfl)⟩ rfl (Nat.le_of_ble_eq_true rfl) rfl dX0_tickRefusal_1 (fun p3 => ?_)
  refine aw_if_ne X (tgt := 9) (z_zI p3) dX0_tickRefusal_4 (by decide) (fun h4 => ?_) (fun h4 => ?_)
  · rw [if_neg h4] at hf
    refine aw_iload_n X 3 dX0_tickRefusal_9 rfl rfl ?_
    refine aw_iconst X dX0_tickRefusal_10 ?_
    refine aw_icmp_lt X (tgt := 20) c_v3 (z_lit (x := 1) (by decide)) dX0_tickRefusal_11 (by decide) (fun h5 => ?_) (fun h5 => ?_)
    · rw [if_pos h5] at hf
      refine aw_iconst X dX0_tickRefusal_20 ?_
      obtain rfl := Option.some.inj hf
      exact aw_iret X (z_lit (x := 1) (by decide)) hr rfl dX0_tickRefusal_21
    · rw [if_neg h5] at hf
      refine aw_iload_n X 3 dX0_tickRefusal_14 rfl rfl ?_
      refine aw_bipush X dX0_tickRefusal_15 (by decide) ?_
      refine aw_icmp_le X (tgt := 22) c_v3 (z_lit (x := 60) (by decide)) dX0_tickRefusal_17 (by decide) (fun h6 => ?_) (fun h6 => ?_)
      · rw [if_pos h6] at hf
        refine aw_aload_n X 2 dX0_tickRefusal_22 rfl rfl ?_
        refine aw_getI X (sX7_0 a2 h_a2) fX0_104 rfl dX0_tickRefusal_23 (fun c7 => ?_)
        refine aw_iload_n X 3 dX0_tickRefusal_26 rfl rfl ?_
        refine aw_iadd X dX0_tickRefusal_27 ?_
        refine aw_sipush X dX0_tickRefusal_28 (by decide) ?_
        refine aw_icmp_le X (tgt := 38) (z_w_in _) (z_lit (x := 9999) (by decide)) dX0_tickRefusal_31 (by decide) (fun h8 => ?_) (fun h8 => ?_)
        · rw [if_pos h8] at hf
          refine aw_iconst X dX0_tickRefusal_38 ?_
          obtain rfl := Option.some.inj hf
          exact aw_iret X (z_lit (x := (-1)) (by decide)) hr rfl dX0_tickRefusal_39
        · rw [if_neg h8] at hf
          refine aw_iconst X dX0_tickRefusal_34 ?_
          refine aw_goto X (tgt := 39) dX0_tickRefusal_35 (by decide) ?_
          obtain rfl := Option.some.inj hf
          exact aw_iret X (z_lit (x := 3) (by decide)) hr rfl dX0_tickRefusal_39
      · rw [if_neg h6] at hf
        refine aw_iconst X dX0_tickRefusal_20 ?_
        obtain rfl := Option.some.inj hf
        exact aw_iret X (z_lit (x := 1) (by decide)) hr rfl dX0_tickRefusal_21
  · rw [if_pos h4] at hf
    refine aw_iconst X dX0_tickRefusal_7 ?_
    obtain rfl := Option.some.inj hf
    exact aw_iret X (z_lit (x := 0) (by decide)) hr rfl dX0_tickRefusal_8
-- SpeedDesk$Acts.moveRefusal(LSpeedDesk$Chip;LSpeedDesk$State;II)I
section S_X0_moveRefusal
variable {p : Program} {l : Launch} {e : Env} {s : State} {m : MethodId} {args : Array Value} {below : List Frame} {meth : Method} {c : Code} {D : va_G} {cA : Nat → ClassId} {sa ad : Nat → Nat} {bs : Nat} {q : Int}

end S_X0_moveRefusal
set_option maxHeartbeats 4000000 in
set_option maxRecDepth 100000 in
theorem C_X0_moveRefusal (l : Launch) (D : va_G) (cA : Nat → ClassId) (sa ad : Nat → Nat) (bs : Nat) (a1 : Nat) (h_a1 : a1 ∈ ax_iX1) (a2 : Nat) (h_a2 : a2 ∈ ax_iX7) (v3 : Int) (c_v3 : Z_I v3) (v4 : Int) (c_v4 : Z_I v4) (σ : Nat → Nat → Int) (q : Int) (hf : f_X0_moveRefusal a1 a2 v3 v4 σ = some q) : AM l D cA sa ad bs 788 SHp yX0_moveRefusal cX0_moveRefusal 5 (some .int) 1 [.ref (ad 742), .ref (ad a1), .ref (ad a2), z_i v3, z_i v4] σ (some (z_i q)) (Z_I q) σ := by
  refine am_of (by decide +kernel) (Nat.le_of_ble_eq_true rfl) (fun p e s m args below meth c X hr => ?_)
  refine aw_lv (lv' := [(0, .ref (ad 742)), (1, .ref (ad a1)), (2, .ref (ad a2)), (3, z_i v3), (4, z_i v4)]) rfl ?_
  unfold f_X0_moveRefusal at hf
  refine aw_aload_n X 1 dX0_moveRefusal_0 rfl rfl ?_
  refine aw_iload_n X 3 dX0_moveRefusal_1 rfl rfl ?_
  obtain ⟨q1, e2, hf⟩ := z_bd hf
  refine aw_callV X [z_i v3] [] [z_i q1] cX0_107 (sX1_0 a1 h_a1) ciX1 (C_X1_hasTask l D cA sa ad bs a1 h_a1 v3 c_v3 σ q1 e2) rfl ⟨(Nat.le_of_ble_eq_true rfl), (Nat.le_of_ble_eq_true rfl), (Nat.le_of_ble_eq_true rfl), (Nat.le_of_ble_eq_true rfl)⟩ rfl (Nat.le_of_ble_eq_true rfl) rfl dX0_moveRefusal_2 (fun p3 => ?_)
  refine aw_if_eq X (tgt := 17) (z_zI p3) dX0_moveRefusal_5 (by decide) (fun h4 => ?_) (fun h4 => ?_)
  · rw [if_pos h4] at hf
    refine aw_iconst X dX0_moveRefusal_17 ?_
    obtain rfl := Option.some.inj hf
    exact aw_iret X (z_lit (x := 0) (by decide)) hr rfl dX0_moveRefusal_18
  · rw [if_neg h4] at hf
    refine aw_aload_n X 1 dX0_moveRefusal_8 rfl rfl ?_
    refine aw_iload X 4 dX0_moveRefusal_9 rfl ?_
    obtain ⟨q5, e6, hf⟩ := z_bd hf
    refine aw_callV X [z_i v4] [] [z_i q5] cX0_111 (sX1_0 a1 h_a1) ciX1 (C_X1_hasCore l D cA sa ad bs a1 h_a1 v4 c_v4 σ q5 e6) rfl ⟨(Nat.le_of_ble_eq_true rfl), (Nat.le_of_ble_eq_true rfl), (Nat.le_of_ble_eq_true rfl), (Nat.le_of_ble_eq_true rfl)⟩ rfl (Nat.le_of_ble_eq_true rfl) rfl dX0_moveRefusal_11 (fun p7 => ?_)
    refine aw_if_ne X (tgt := 19) (z_zI p7) dX0_moveRefusal_14 (by decide) (fun h8 => ?_) (fun h8 => ?_)
    · rw [if_neg h8] at hf
      refine aw_aload_n X 2 dX0_moveRefusal_19 rfl rfl ?_
      refine aw_getR X (sX7_0 a2 h_a2) fX0_114 rfl dX0_moveRefusal_20 ?_
      refine aw_iload_n X 3 dX0_moveRefusal_23 rfl rfl ?_
      obtain ⟨g9, hf⟩ := z_gd hf
      refine aw_iald X (j := v3.toNat) (sX7_1 a2 h_a2) c_v3 g9.1 g9.2 rfl dX0_moveRefusal_24 (fun c10 => ?_)
      refine aw_iload X 4 dX0_moveRefusal_25 rfl ?_
      refine aw_icmp_ne X (tgt := 34) c10 c_v4 dX0_moveRefusal_27 (by decide) (fun h11 => ?_) (fun h11 => ?_)
      · rw [if_neg h11] at hf
        refine aw_iconst X dX0_moveRefusal_34 ?_
        obtain rfl := Option.some.inj hf
        exact aw_iret X (z_lit (x := (-1)) (by decide)) hr rfl dX0_moveRefusal_35
      · rw [if_pos h11] at hf
        refine aw_iconst X dX0_moveRefusal_30 ?_
        refine aw_goto X (tgt := 35) dX0_moveRefusal_31 (by decide) ?_
        obtain rfl := Option.some.inj hf
        exact aw_iret X (z_lit (x := 2) (by decide)) hr rfl dX0_moveRefusal_35
    · rw [if_pos h8] at hf
      refine aw_iconst X dX0_moveRefusal_17 ?_
      obtain rfl := Option.some.inj hf
      exact aw_iret X (z_lit (x := 0) (by decide)) hr rfl dX0_moveRefusal_18
-- SpeedDesk$Acts.askRefusal(LSpeedDesk$Chip;LSpeedDesk$State;LSpeedDesk$Step;)I
section S_X0_askRefusal
variable {p : Program} {l : Launch} {e : Env} {s : State} {m : MethodId} {args : Array Value} {below : List Frame} {meth : Method} {c : Code} {D : va_G} {cA : Nat → ClassId} {sa ad : Nat → Nat} {bs : Nat} {q : Int}
set_option maxHeartbeats 4000000 in
set_option maxRecDepth 100000 in
theorem A_X0_askRefusal_62 (X : AX p s m args meth c D cA sa bs cX0_askRefusal 9 RX0) (hr : meth.sig.returnType = (some .int)) (σ : Nat → Nat → Int) (a2 : Nat) (h_a2 : a2 ∈ ax_iX7) (a3 : Nat) (h_a3 : a3 ∈ ax_iX8) (v4 : Int) (c_v4 : Z_I v4) (v5 : Int) (c_v5 : Z_I v5) (v6 : Int) (c_v6 : Z_I v6) (t0 : Int) (c_t0 : Z_I t0) (hf : f_X0_askRefusal_62 a2 a3 v4 v5 v6 t0 σ = some q) : AW p l e (ax_rm 1 0 0) s m args below meth c D cA ad bs 788 SHp 0 0 (ax_MQ below args s D cA ad bs 788 SHp 0 0 (some (z_i q)) (Z_I q) σ) 9 62 [(2, .ref (ad a2)), (3, .ref (ad a3)), (4, z_i v4), (5, z_i v5), (6, z_i v6)] [z_i t0] σ := by
  unfold f_X0_askRefusal_62 at hf
  refine aw_istore X [(7, z_i t0), (2, .ref (ad a2)), (3, .ref (ad a3)), (4, z_i v4), (5, z_i v5), (6, z_i v6)] dX0_askRefusal_62 (by decide) rfl ?_
  refine aw_aload_n X 2 dX0_askRefusal_64 rfl rfl ?_
  refine aw_getL X (sX8_0 a3 h_a3) fX0_64 rfl dX0_askRefusal_65 (fun c16 => ?_)
  refine aw_lconst X (x := 0) dX0_askRefusal_68 (by decide) ?_
  refine aw_lcmp X c16 (z_litL (x := 0) (by decide)) dX0_askRefusal_69 ?_
  refine aw_if_eq X (tgt := 85) (z_cmp_in _ _) dX0_askRefusal_70 (by decide) (fun h17 => ?_) (fun h17 => ?_)
  · rw [if_pos h17] at hf
    refine aw_iconst X dX0_askRefusal_85 ?_
    obtain rfl := Option.some.inj hf
    exact aw_iret X (z_lit (x := 1) (by decide)) hr rfl dX0_askRefusal_86
  · rw [if_neg h17] at hf
    refine aw_iload X 0 dX0_askRefusal_73 rfl ?_
    refine aw_if_eq X (tgt := 85) c_t0 dX0_askRefusal_75 (by decide) (fun h18 => ?_) (fun h18 => ?_)
    · rw [if_pos h18] at hf
      refine aw_iconst X dX0_askRefusal_85 ?_
      obtain rfl := Option.some.inj hf
      exact aw_iret X (z_lit (x := 1) (by decide)) hr rfl dX0_askRefusal_86
    · rw [if_neg h18] at hf
      refine aw_iload X 4 dX0_askRefusal_78 rfl ?_
      refine aw_iload X 5 dX0_askRefusal_80 rfl ?_
      refine aw_icmp_le X (tgt := 87) c_v5 c_v6 dX0_askRefusal_82 (by decide) (fun h19 => ?_) (fun h19 => ?_)
      · rw [if_pos h19] at hf
        refine aw_aload_n X 1 dX0_askRefusal_87 rfl rfl ?_
        refine aw_aload_n X 2 dX0_askRefusal_88 rfl rfl ?_
        refine aw_getL X (sX8_0 a3 h_a3) fX0_64 rfl dX0_askRefusal_89 (fun c20 => ?_)
        refine aw_iload X 3 dX0_askRefusal_92 rfl ?_
        obtain ⟨q21, e22, hf⟩ := z_bd hf
        refine aw_callV X [z_v (σ a3 2), z_i v4] [] [z_i q21] cX0_74 (sX7_0 a2 h_a2) ciX7 (C_X7_askOf l D cA sa ad bs a2 h_a2 (σ a3 2) c20 v4 c_v4 σ q21 e22) rfl ⟨(Nat.le_of_ble_eq_true rfl), (Nat.le_of_ble_eq_true rfl), (Nat.le_of_ble_eq_true rfl), (Nat.le_of_ble_eq_true rfl)⟩ rfl (Nat.le_of_ble_eq_true rfl) rfl dX0_askRefusal_94 (fun p23 => ?_)
        refine aw_istore X [(8, z_i q21), (7, z_i t0), (2, .ref (ad a2)), (3, .ref (ad a3)), (4, z_i v4), (5, z_i v5), (6, z_i v6)] dX0_askRefusal_97 (by decide) rfl ?_
        refine aw_iload X 0 dX0_askRefusal_99 rfl ?_
        refine aw_iconst X dX0_askRefusal_101 ?_
        refine aw_icmp_ne X (tgt := 120) p23 (z_lit (x := (-1)) (by decide)) dX0_askRefusal_102 (by decide) (fun h24 => ?_) (fun h24 => ?_)
        · rw [if_neg h24] at hf
          refine aw_aload_n X 2 dX0_askRefusal_120 rfl rfl ?_
          refine aw_getR X (sX7_0 a2 h_a2) fX0_124 rfl dX0_askRefusal_121 ?_
          refine aw_iload X 0 dX0_askRefusal_124 rfl ?_
          obtain ⟨g25, hf⟩ := z_gd hf
          refine aw_iald X (j := q21.toNat) (sX7_11 a2 h_a2) p23 g25.1 g25.2 rfl dX0_askRefusal_126 (fun c26 => ?_)
          refine aw_iload X 5 dX0_askRefusal_127 rfl ?_
          refine aw_icmp_ne X (tgt := 148) c26 c_v5 dX0_askRefusal_129 (by decide) (fun h27 => ?_) (fun h27 => ?_)
          · rw [if_neg h27] at hf
            refine aw_iconst X dX0_askRefusal_148 ?_
            obtain rfl := Option.some.inj hf
            exact aw_iret X (z_lit (x := (-1)) (by decide)) hr rfl dX0_askRefusal_149
          · rw [if_pos h27] at hf
            refine aw_aload_n X 2 dX0_askRefusal_132 rfl rfl ?_
            refine aw_getR X (sX7_0 a2 h_a2) fX0_127 rfl dX0_askRefusal_133 ?_
            refine aw_iload X 0 dX0_askRefusal_136 rfl ?_
            obtain ⟨g28, hf⟩ := z_gd hf
            refine aw_iald X (j := q21.toNat) (sX7_12 a2 h_a2) p23 g28.1 g28.2 rfl dX0_askRefusal_138 (fun c29 => ?_)
            refine aw_iload X 6 dX0_askRefusal_139 rfl ?_
            refine aw_icmp_ne X (tgt := 148) c29 c_v6 dX0_askRefusal_141 (by decide) (fun h30 => ?_) (fun h30 => ?_)
            · rw [if_neg h30] at hf
              refine aw_iconst X dX0_askRefusal_148 ?_
              obtain rfl := Option.some.inj hf
              exact aw_iret X (z_lit (x := (-1)) (by decide)) hr rfl dX0_askRefusal_149
            · rw [if_pos h30] at hf
              refine aw_iconst X dX0_askRefusal_144 ?_
              refine aw_goto X (tgt := 149) dX0_askRefusal_145 (by decide) ?_
              obtain rfl := Option.some.inj hf
              exact aw_iret X (z_lit (x := 2) (by decide)) hr rfl dX0_askRefusal_149
        · rw [if_pos h24] at hf
          refine aw_aload_n X 2 dX0_askRefusal_105 rfl rfl ?_
          refine aw_getI X (sX7_0 a2 h_a2) fX0_82 rfl dX0_askRefusal_106 (fun c31 => ?_)
          refine aw_bipush X dX0_askRefusal_109 (by decide) ?_
          refine aw_icmp_lt X (tgt := 118) c31 (z_lit (x := 6) (by decide)) dX0_askRefusal_111 (by decide) (fun h32 => ?_) (fun h32 => ?_)
          · rw [if_pos h32] at hf
            refine aw_iconst X dX0_askRefusal_118 ?_
            obtain rfl := Option.some.inj hf
            exact aw_iret X (z_lit (x := (-1)) (by decide)) hr rfl dX0_askRefusal_119
          · rw [if_neg h32] at hf
            refine aw_iconst X dX0_askRefusal_114 ?_
            refine aw_goto X (tgt := 119) dX0_askRefusal_115 (by decide) ?_
            obtain rfl := Option.some.inj hf
            exact aw_iret X (z_lit (x := 3) (by decide)) hr rfl dX0_askRefusal_119
      · rw [if_neg h19] at hf
        refine aw_iconst X dX0_askRefusal_85 ?_
        obtain rfl := Option.some.inj hf
        exact aw_iret X (z_lit (x := 1) (by decide)) hr rfl dX0_askRefusal_86
end S_X0_askRefusal
set_option maxHeartbeats 4000000 in
set_option maxRecDepth 100000 in
theorem C_X0_askRefusal (l : Launch) (D : va_G) (cA : Nat → ClassId) (sa ad : Nat → Nat) (bs : Nat) (a1 : Nat) (h_a1 : a1 ∈ ax_iX1) (a2 : Nat) (h_a2 : a2 ∈ ax_iX7) (a3 : Nat) (h_a3 : a3 ∈ ax_iX8) (σ : Nat → Nat → Int) (q : Int) (hf : f_X0_askRefusal a1 a2 a3 σ = some q) : AM l D cA sa ad bs 788 SHp yX0_askRefusal cX0_askRefusal 9 (some .int) 1 [.ref (ad 742), .ref (ad a1), .ref (ad a2), .ref (ad a3)] σ (some (z_i q)) (Z_I q) σ := by
  refine am_of (by decide +kernel) (Nat.le_of_ble_eq_true rfl) (fun p e s m args below meth c X hr => ?_)
  refine aw_lv (lv' := [(0, .ref (ad 742)), (1, .ref (ad a1)), (2, .ref (ad a2)), (3, .ref (ad a3))]) rfl ?_
  unfold f_X0_askRefusal at hf
  refine aw_aload_n X 3 dX0_askRefusal_0 rfl rfl ?_
  refine aw_getR X (sX8_0 a3 h_a3) fX0_25 rfl dX0_askRefusal_1 ?_
  refine aw_iconst X dX0_askRefusal_4 ?_
  refine aw_iald X (j := 0) (sX8_1 a3 h_a3) (z_lit (x := 0) (by decide)) (by decide) (by decide) rfl dX0_askRefusal_5 (fun c1 => ?_)
  refine aw_istore X [(4, z_i (σ (a3 + 1) 0)), (0, .ref (ad 742)), (1, .ref (ad a1)), (2, .ref (ad a2)), (3, .ref (ad a3))] dX0_askRefusal_6 (by decide) rfl ?_
  refine aw_aload_n X 4 dX0_askRefusal_8 rfl rfl ?_
  refine aw_getR X (sX8_0 a3 h_a3) fX0_25 rfl dX0_askRefusal_9 ?_
  refine aw_iconst X dX0_askRefusal_12 ?_
  refine aw_iald X (j := 1) (sX8_1 a3 h_a3) (z_lit (x := 1) (by decide)) (by decide) (by decide) rfl dX0_askRefusal_13 (fun c2 => ?_)
  refine aw_istore X [(5, z_i (σ (a3 + 1) 1)), (4, z_i (σ (a3 + 1) 0)), (0, .ref (ad 742)), (1, .ref (ad a1)), (2, .ref (ad a2)), (3, .ref (ad a3))] dX0_askRefusal_14 (by decide) rfl ?_
  refine aw_aload_n X 5 dX0_askRefusal_16 rfl rfl ?_
  refine aw_getR X (sX8_0 a3 h_a3) fX0_25 rfl dX0_askRefusal_17 ?_
  refine aw_iconst X dX0_askRefusal_20 ?_
  refine aw_iald X (j := 2) (sX8_1 a3 h_a3) (z_lit (x := 2) (by decide)) (by decide) (by decide) rfl dX0_askRefusal_21 (fun c3 => ?_)
  refine aw_istore X [(6, z_i (σ (a3 + 1) 2)), (5, z_i (σ (a3 + 1) 1)), (4, z_i (σ (a3 + 1) 0)), (0, .ref (ad 742)), (1, .ref (ad a1)), (2, .ref (ad a2)), (3, .ref (ad a3))] dX0_askRefusal_22 (by decide) rfl ?_
  refine aw_aload_n X 4 dX0_askRefusal_24 rfl rfl ?_
  refine aw_iload X 2 dX0_askRefusal_25 rfl ?_
  obtain ⟨q4, e5, hf⟩ := z_bd hf
  refine aw_callV X [z_i (σ (a3 + 1) 0)] [] [z_i q4] cX0_117 (sX1_0 a1 h_a1) ciX1 (C_X1_hasCluster l D cA sa ad bs a1 h_a1 (σ (a3 + 1) 0) c1 σ q4 e5) rfl ⟨(Nat.le_of_ble_eq_true rfl), (Nat.le_of_ble_eq_true rfl), (Nat.le_of_ble_eq_true rfl), (Nat.le_of_ble_eq_true rfl)⟩ rfl (Nat.le_of_ble_eq_true rfl) rfl dX0_askRefusal_27 (fun p6 => ?_)
  refine aw_if_ne X (tgt := 35) (z_zI p6) dX0_askRefusal_30 (by decide) (fun h7 => ?_) (fun h7 => ?_)
  · rw [if_neg h7] at hf
    refine aw_aload_n X 4 dX0_askRefusal_35 rfl rfl ?_
    refine aw_iload X 2 dX0_askRefusal_36 rfl ?_
    refine aw_iload X 1 dX0_askRefusal_38 rfl ?_
    obtain ⟨q8, e9, hf⟩ := z_bd hf
    refine aw_callV X [z_i (σ (a3 + 1) 0), z_i (σ (a3 + 1) 1)] [] [z_i q8] cX0_120 (sX1_0 a1 h_a1) ciX1 (C_X1_hasPoint l D cA sa ad bs a1 h_a1 (σ (a3 + 1) 0) c1 (σ (a3 + 1) 1) c2 σ q8 e9) rfl ⟨(Nat.le_of_ble_eq_true rfl), (Nat.le_of_ble_eq_true rfl), (Nat.le_of_ble_eq_true rfl), (Nat.le_of_ble_eq_true rfl)⟩ rfl (Nat.le_of_ble_eq_true rfl) rfl dX0_askRefusal_40 (fun p10 => ?_)
    refine aw_if_eq X (tgt := 61) (z_zI p10) dX0_askRefusal_43 (by decide) (fun h11 => ?_) (fun h11 => ?_)
    · rw [if_pos h11] at hf
      refine aw_iconst X dX0_askRefusal_61 ?_
      refine aw_sub [5, 6, 2, 1, 0] rfl ?_
      exact A_X0_askRefusal_62 X hr σ a2 h_a2 a3 h_a3 (σ (a3 + 1) 0) c1 (σ (a3 + 1) 1) c2 (σ (a3 + 1) 2) c3 0 (z_lit (x := 0) (by decide)) hf
    · rw [if_neg h11] at hf
      refine aw_aload_n X 4 dX0_askRefusal_46 rfl rfl ?_
      refine aw_iload X 2 dX0_askRefusal_47 rfl ?_
      refine aw_iload X 0 dX0_askRefusal_49 rfl ?_
      obtain ⟨q12, e13, hf⟩ := z_bd hf
      refine aw_callV X [z_i (σ (a3 + 1) 0), z_i (σ (a3 + 1) 2)] [] [z_i q12] cX0_120 (sX1_0 a1 h_a1) ciX1 (C_X1_hasPoint l D cA sa ad bs a1 h_a1 (σ (a3 + 1) 0) c1 (σ (a3 + 1) 2) c3 σ q12 e13) rfl ⟨(Nat.le_of_ble_eq_true rfl), (Nat.le_of_ble_eq_true rfl), (Nat.le_of_ble_eq_true rfl), (Nat.le_of_ble_eq_true rfl)⟩ rfl (Nat.le_of_ble_eq_true rfl) rfl dX0_askRefusal_51 (fun p14 => ?_)
      refine aw_if_eq X (tgt := 61) (z_zI p14) dX0_askRefusal_54 (by decide) (fun h15 => ?_) (fun h15 => ?_)
      · simp only [if_pos h15] at hf
        refine aw_iconst X dX0_askRefusal_61 ?_
        refine aw_sub [5, 6, 2, 1, 0] rfl ?_
        exact A_X0_askRefusal_62 X hr σ a2 h_a2 a3 h_a3 (σ (a3 + 1) 0) c1 (σ (a3 + 1) 1) c2 (σ (a3 + 1) 2) c3 0 (z_lit (x := 0) (by decide)) hf
      · simp only [if_neg h15] at hf
        refine aw_iconst X dX0_askRefusal_57 ?_
        refine aw_goto X (tgt := 62) dX0_askRefusal_58 (by decide) ?_
        refine aw_sub [5, 6, 2, 1, 0] rfl ?_
        exact A_X0_askRefusal_62 X hr σ a2 h_a2 a3 h_a3 (σ (a3 + 1) 0) c1 (σ (a3 + 1) 1) c2 (σ (a3 + 1) 2) c3 1 (z_lit (x := 1) (by decide)) hf
  · rw [if_pos h7] at hf
    refine aw_iconst X dX0_askRefusal_33 ?_
    obtain rfl := Option.some.inj hf
    exact aw_iret X (z_lit (x := 0) (by decide)) hr rfl dX0_askRefusal_34
-- SpeedDesk$Acts.dropRefusal(LSpeedDesk$Chip;LSpeedDesk$State;LSpeedDesk$Step;)I
section S_X0_dropRefusal
variable {p : Program} {l : Launch} {e : Env} {s : State} {m : MethodId} {args : Array Value} {below : List Frame} {meth : Method} {c : Code} {D : va_G} {cA : Nat → ClassId} {sa ad : Nat → Nat} {bs : Nat} {q : Int}

end S_X0_dropRefusal
set_option maxHeartbeats 4000000 in
set_option maxRecDepth 100000 in
theorem C_X0_dropRefusal (l : Launch) (D : va_G) (cA : Nat → ClassId) (sa ad : Nat → Nat) (bs : Nat) (a1 : Nat) (h_a1 : a1 ∈ ax_iX1) (a2 : Nat) (h_a2 : a2 ∈ ax_iX7) (a3 : Nat) (h_a3 : a3 ∈ ax_iX8) (σ : Nat → Nat → Int) (q : Int) (hf : f_X0_dropRefusal a1 a2 a3 σ = some q) : AM l D cA sa ad bs 788 SHp yX0_dropRefusal cX0_dropRefusal 4 (some .int) 1 [.ref (ad 742), .ref (ad a1), .ref (ad a2), .ref (ad a3)] σ (some (z_i q)) (Z_I q) σ := by
  refine am_of (by decide +kernel) (Nat.le_of_ble_eq_true rfl) (fun p e s m args below meth c X hr => ?_)
  refine aw_lv (lv' := [(0, .ref (ad 742)), (1, .ref (ad a1)), (2, .ref (ad a2)), (3, .ref (ad a3))]) rfl ?_
  unfold f_X0_dropRefusal at hf
  refine aw_aload_n X 1 dX0_dropRefusal_0 rfl rfl ?_
  refine aw_aload_n X 3 dX0_dropRefusal_1 rfl rfl ?_
  refine aw_getR X (sX8_0 a3 h_a3) fX0_25 rfl dX0_dropRefusal_2 ?_
  refine aw_iconst X dX0_dropRefusal_5 ?_
  refine aw_iald X (j := 0) (sX8_1 a3 h_a3) (z_lit (x := 0) (by decide)) (by decide) (by decide) rfl dX0_dropRefusal_6 (fun c1 => ?_)
  obtain ⟨q2, e3, hf⟩ := z_bd hf
  refine aw_callV X [z_i (σ (a3 + 1) 0)] [] [z_i q2] cX0_117 (sX1_0 a1 h_a1) ciX1 (C_X1_hasCluster l D cA sa ad bs a1 h_a1 (σ (a3 + 1) 0) c1 σ q2 e3) rfl ⟨(Nat.le_of_ble_eq_true rfl), (Nat.le_of_ble_eq_true rfl), (Nat.le_of_ble_eq_true rfl), (Nat.le_of_ble_eq_true rfl)⟩ rfl (Nat.le_of_ble_eq_true rfl) rfl dX0_dropRefusal_7 (fun p4 => ?_)
  refine aw_if_ne X (tgt := 15) (z_zI p4) dX0_dropRefusal_10 (by decide) (fun h5 => ?_) (fun h5 => ?_)
  · rw [if_neg h5] at hf
    refine aw_aload_n X 3 dX0_dropRefusal_15 rfl rfl ?_
    refine aw_getL X (sX8_0 a3 h_a3) fX0_64 rfl dX0_dropRefusal_16 (fun c6 => ?_)
    refine aw_lconst X (x := 0) dX0_dropRefusal_19 (by decide) ?_
    refine aw_lcmp X c6 (z_litL (x := 0) (by decide)) dX0_dropRefusal_20 ?_
    refine aw_if_ne X (tgt := 26) (z_cmp_in _ _) dX0_dropRefusal_21 (by decide) (fun h7 => ?_) (fun h7 => ?_)
    · rw [if_neg h7] at hf
      refine aw_aload_n X 2 dX0_dropRefusal_26 rfl rfl ?_
      refine aw_aload_n X 3 dX0_dropRefusal_27 rfl rfl ?_
      refine aw_getL X (sX8_0 a3 h_a3) fX0_64 rfl dX0_dropRefusal_28 (fun c8 => ?_)
      refine aw_aload_n X 3 dX0_dropRefusal_31 rfl rfl ?_
      refine aw_getR X (sX8_0 a3 h_a3) fX0_25 rfl dX0_dropRefusal_32 ?_
      refine aw_iconst X dX0_dropRefusal_35 ?_
      refine aw_iald X (j := 0) (sX8_1 a3 h_a3) (z_lit (x := 0) (by decide)) (by decide) (by decide) rfl dX0_dropRefusal_36 (fun c9 => ?_)
      obtain ⟨q10, e11, hf⟩ := z_bd hf
      refine aw_callV X [z_v (σ a3 2), z_i (σ (a3 + 1) 0)] [] [z_i q10] cX0_74 (sX7_0 a2 h_a2) ciX7 (C_X7_askOf l D cA sa ad bs a2 h_a2 (σ a3 2) c8 (σ (a3 + 1) 0) c9 σ q10 e11) rfl ⟨(Nat.le_of_ble_eq_true rfl), (Nat.le_of_ble_eq_true rfl), (Nat.le_of_ble_eq_true rfl), (Nat.le_of_ble_eq_true rfl)⟩ rfl (Nat.le_of_ble_eq_true rfl) rfl dX0_dropRefusal_37 (fun p12 => ?_)
      refine aw_iconst X dX0_dropRefusal_40 ?_
      refine aw_icmp_ne X (tgt := 48) p12 (z_lit (x := (-1)) (by decide)) dX0_dropRefusal_41 (by decide) (fun h13 => ?_) (fun h13 => ?_)
      · rw [if_neg h13] at hf
        refine aw_iconst X dX0_dropRefusal_48 ?_
        obtain rfl := Option.some.inj hf
        exact aw_iret X (z_lit (x := (-1)) (by decide)) hr rfl dX0_dropRefusal_49
      · rw [if_pos h13] at hf
        refine aw_iconst X dX0_dropRefusal_44 ?_
        refine aw_goto X (tgt := 49) dX0_dropRefusal_45 (by decide) ?_
        obtain rfl := Option.some.inj hf
        exact aw_iret X (z_lit (x := 2) (by decide)) hr rfl dX0_dropRefusal_49
    · rw [if_pos h7] at hf
      refine aw_iconst X dX0_dropRefusal_24 ?_
      obtain rfl := Option.some.inj hf
      exact aw_iret X (z_lit (x := 1) (by decide)) hr rfl dX0_dropRefusal_25
  · rw [if_pos h5] at hf
    refine aw_iconst X dX0_dropRefusal_13 ?_
    obtain rfl := Option.some.inj hf
    exact aw_iret X (z_lit (x := 0) (by decide)) hr rfl dX0_dropRefusal_14
-- SpeedDesk$Acts.stopRefusal(LSpeedDesk$Chip;LSpeedDesk$State;IZ)I
section S_X0_stopRefusal
variable {p : Program} {l : Launch} {e : Env} {s : State} {m : MethodId} {args : Array Value} {below : List Frame} {meth : Method} {c : Code} {D : va_G} {cA : Nat → ClassId} {sa ad : Nat → Nat} {bs : Nat} {q : Int}

end S_X0_stopRefusal
set_option maxHeartbeats 4000000 in
set_option maxRecDepth 100000 in
theorem C_X0_stopRefusal (l : Launch) (D : va_G) (cA : Nat → ClassId) (sa ad : Nat → Nat) (bs : Nat) (a1 : Nat) (h_a1 : a1 ∈ ax_iX1) (a2 : Nat) (h_a2 : a2 ∈ ax_iX7) (v3 : Int) (c_v3 : Z_I v3) (v4 : Int) (c_v4 : Z_I v4) (σ : Nat → Nat → Int) (q : Int) (hf : f_X0_stopRefusal a1 a2 v3 v4 σ = some q) : AM l D cA sa ad bs 788 SHp yX0_stopRefusal cX0_stopRefusal 5 (some .int) 2 [.ref (ad 742), .ref (ad a1), .ref (ad a2), z_i v3, z_i v4] σ (some (z_i q)) (Z_I q) σ := by
  refine am_of (by decide +kernel) (Nat.le_of_ble_eq_true rfl) (fun p e s m args below meth c X hr => ?_)
  refine aw_lv (lv' := [(0, .ref (ad 742)), (1, .ref (ad a1)), (2, .ref (ad a2)), (3, z_i v3), (4, z_i v4)]) rfl ?_
  unfold f_X0_stopRefusal at hf
  refine aw_aload_n X 1 dX0_stopRefusal_0 rfl rfl ?_
  refine aw_iload_n X 3 dX0_stopRefusal_1 rfl rfl ?_
  obtain ⟨q1, e2, hf⟩ := z_bd hf
  refine aw_callV X [z_i v3] [] [z_i q1] cX0_107 (sX1_0 a1 h_a1) ciX1 (C_X1_hasTask l D cA sa ad bs a1 h_a1 v3 c_v3 σ q1 e2) rfl ⟨(Nat.le_of_ble_eq_true rfl), (Nat.le_of_ble_eq_true rfl), (Nat.le_of_ble_eq_true rfl), (Nat.le_of_ble_eq_true rfl)⟩ rfl (Nat.le_of_ble_eq_true rfl) rfl dX0_stopRefusal_2 (fun p3 => ?_)
  refine aw_if_ne X (tgt := 10) (z_zI p3) dX0_stopRefusal_5 (by decide) (fun h4 => ?_) (fun h4 => ?_)
  · rw [if_neg h4] at hf
    refine aw_aload_n X 2 dX0_stopRefusal_10 rfl rfl ?_
    refine aw_iload_n X 3 dX0_stopRefusal_11 rfl rfl ?_
    obtain ⟨q5, e6, hf⟩ := z_bd hf
    refine aw_callV X [z_i v3] [] [z_i q5] cX0_130 (sX7_0 a2 h_a2) ciX7 (C_X7_isStopped l D cA sa ad bs a2 h_a2 v3 c_v3 σ q5 e6) rfl ⟨(Nat.le_of_ble_eq_true rfl), (Nat.le_of_ble_eq_true rfl), (Nat.le_of_ble_eq_true rfl), (Nat.le_of_ble_eq_true rfl)⟩ rfl (Nat.le_of_ble_eq_true rfl) rfl dX0_stopRefusal_12 (fun p7 => ?_)
    refine aw_iload X 4 dX0_stopRefusal_15 rfl ?_
    refine aw_icmp_ne X (tgt := 24) (z_zI p7) c_v4 dX0_stopRefusal_17 (by decide) (fun h8 => ?_) (fun h8 => ?_)
    · rw [if_neg h8] at hf
      refine aw_iconst X dX0_stopRefusal_24 ?_
      obtain rfl := Option.some.inj hf
      exact aw_iret X (z_lit (x := (-1)) (by decide)) hr rfl dX0_stopRefusal_25
    · rw [if_pos h8] at hf
      refine aw_iconst X dX0_stopRefusal_20 ?_
      refine aw_goto X (tgt := 25) dX0_stopRefusal_21 (by decide) ?_
      obtain rfl := Option.some.inj hf
      exact aw_iret X (z_lit (x := 2) (by decide)) hr rfl dX0_stopRefusal_25
  · rw [if_pos h4] at hf
    refine aw_iconst X dX0_stopRefusal_8 ?_
    obtain rfl := Option.some.inj hf
    exact aw_iret X (z_lit (x := 0) (by decide)) hr rfl dX0_stopRefusal_9
