-- SpeedDesk$Clockwork.fadeLoads(LSpeedDesk$Chip;LSpeedDesk$State;)V
section S_X2_fadeLoads
variable {p : Program} {l : Launch} {e : Env} {s : State} {m : MethodId} {args : Array Value} {below : List Frame} {meth : Method} {c : Code} {D : va_G} {cA : Nat → ClassId} {sa ad : Nat → Nat} {bs : Nat} {q : (Nat → Nat → Int)}
set_option maxHeartbeats 4000000 in
set_option maxRecDepth 100000 in
theorem A_X2_fadeLoads_2 (X : AX p s m args meth c D cA sa bs cX2_fadeLoads 4 RX2) (hr : meth.sig.returnType = none) : ∀ (k : Nat) (a1 : Nat) (h_a1 : a1 ∈ ax_iX1) (a2 : Nat) (h_a2 : a2 ∈ ax_iX7) (v3 : Int) (c_v3 : Z_I v3) (σ : Nat → Nat → Int), f_X2_fadeLoads_2 k a1 a2 v3 σ = some q → AW p l e (ax_rm 1 0 0) s m args below meth c D cA ad bs 788 SHp 0 0 (ax_MQ below args s D cA ad bs 788 SHp 0 0 none True q) 4 2 [(0, .ref (ad 743)), (1, .ref (ad a1)), (2, .ref (ad a2)), (3, z_i v3)] [] σ := by
  intro k
  induction k with
  | zero =>
    intro a1 h_a1 a2 h_a2 v3 c_v3 σ hf
    unfold f_X2_fadeLoads_2 at hf
    cases hf
  | succ k ih =>
    intro a1 h_a1 a2 h_a2 v3 c_v3 σ hf
    unfold f_X2_fadeLoads_2 at hf
    refine aw_iload_n X 3 dX2_fadeLoads_2 rfl rfl ?_
    refine aw_aload_n X 1 dX2_fadeLoads_3 rfl rfl ?_
    refine aw_getI X (sX1_0 a1 h_a1) fX2_64 rfl dX2_fadeLoads_4 (fun c1 => ?_)
    refine aw_icmp_ge X (tgt := 52) c_v3 c1 dX2_fadeLoads_7 (by decide) (fun h2 => ?_) (fun h2 => ?_)
    · rw [if_pos h2] at hf
      obtain rfl := Option.some.inj hf
      exact aw_vret X trivial hr rfl dX2_fadeLoads_52
    · rw [if_neg h2] at hf
      refine aw_aload_n X 2 dX2_fadeLoads_10 rfl rfl ?_
      refine aw_getR X (sX7_0 a2 h_a2) fX2_70 rfl dX2_fadeLoads_11 ?_
      refine aw_iload_n X 3 dX2_fadeLoads_14 rfl rfl ?_
      refine aw_bipush X dX2_fadeLoads_15 (by decide) ?_
      refine aw_aload_n X 2 dX2_fadeLoads_17 rfl rfl ?_
      refine aw_getR X (sX7_0 a2 h_a2) fX2_70 rfl dX2_fadeLoads_18 ?_
      refine aw_iload_n X 3 dX2_fadeLoads_21 rfl rfl ?_
      obtain ⟨g3, hf⟩ := z_gd hf
      refine aw_iald X (j := v3.toNat) (sX7_3 a2 h_a2) c_v3 g3.1 g3.2 rfl dX2_fadeLoads_22 (fun c4 => ?_)
      refine aw_imul X dX2_fadeLoads_23 ?_
      refine aw_aload_n X 0 dX2_fadeLoads_24 rfl rfl ?_
      refine aw_getR X s_743 fX2_9 rfl dX2_fadeLoads_25 ?_
      refine aw_iload_n X 3 dX2_fadeLoads_28 rfl rfl ?_
      obtain ⟨g5, hf⟩ := z_gd hf
      refine aw_iald X (j := v3.toNat) s_744 c_v3 g5.1 g5.2 rfl dX2_fadeLoads_29 (fun c6 => ?_)
      refine aw_sipush X dX2_fadeLoads_30 (by decide) ?_
      refine aw_imul X dX2_fadeLoads_33 ?_
      refine aw_aload_n X 1 dX2_fadeLoads_34 rfl rfl ?_
      refine aw_getI X (sX1_0 a1 h_a1) fX2_81 rfl dX2_fadeLoads_35 (fun c7 => ?_)
      obtain ⟨q8, e9, hf⟩ := z_bd hf
      refine aw_callN X [z_i (z_w ((σ 744 v3.toNat) * 1024)), z_i (σ a1 3)] [z_i (z_w (7 * (σ (a2 + 3) v3.toNat))), z_i v3, .ref (ad (a2 + 3))] [z_i q8, z_i (z_w (7 * (σ (a2 + 3) v3.toNat))), z_i v3, .ref (ad (a2 + 3))] cX2_57 (C_X11_cut l D cA sa ad bs (z_w ((σ 744 v3.toNat) * 1024)) (z_w_in _) (σ a1 3) c7 σ q8 e9) rfl ⟨(Nat.le_of_ble_eq_true rfl), (Nat.le_of_ble_eq_true rfl), (Nat.le_of_ble_eq_true rfl), (Nat.le_of_ble_eq_true rfl)⟩ rfl (Nat.le_of_ble_eq_true rfl) rfl dX2_fadeLoads_38 (fun p10 => ?_)
      refine aw_iadd X dX2_fadeLoads_41 ?_
      refine aw_bipush X dX2_fadeLoads_42 (by decide) ?_
      refine aw_idiv X (z_w_in _) (z_lit (x := 8) (by decide)) (by decide) dX2_fadeLoads_44 ?_
      obtain ⟨g11, hf⟩ := z_gd hf
      refine aw_iast X (j := v3.toNat) (sX7_3 a2 h_a2) c_v3 g11.1 g11.2 rfl (z_w_in _) dX2_fadeLoads_45 ?_
      refine aw_iinc X 3 [(3, z_i (z_w (v3 + 1))), (0, .ref (ad 743)), (1, .ref (ad a1)), (2, .ref (ad a2))] dX2_fadeLoads_46 rfl (by decide) rfl ?_
      refine aw_goto X (tgt := 2) dX2_fadeLoads_49 (by decide) ?_
      refine aw_sub [1, 2, 3, 0] rfl ?_
      exact ih a1 h_a1 a2 h_a2 (z_w (v3 + 1)) (z_w_in _) (u2 σ (a2 + 3) v3.toNat (z_w (Int.tdiv (z_w ((z_w (7 * (σ (a2 + 3) v3.toNat))) + q8)) 8))) hf
end S_X2_fadeLoads
set_option maxHeartbeats 4000000 in
set_option maxRecDepth 100000 in
theorem C_X2_fadeLoads (l : Launch) (D : va_G) (cA : Nat → ClassId) (sa ad : Nat → Nat) (bs : Nat) (a1 : Nat) (h_a1 : a1 ∈ ax_iX1) (a2 : Nat) (h_a2 : a2 ∈ ax_iX7) (σ : Nat → Nat → Int) (q : (Nat → Nat → Int)) (hf : f_X2_fadeLoads a1 a2 σ = some q) : AM l D cA sa ad bs 788 SHp yX2_fadeLoads cX2_fadeLoads 4 none 1 [.ref (ad 743), .ref (ad a1), .ref (ad a2)] σ none True q := by
  refine am_of (by decide +kernel) (Nat.le_of_ble_eq_true rfl) (fun p e s m args below meth c X hr => ?_)
  refine aw_lv (lv' := [(0, .ref (ad 743)), (1, .ref (ad a1)), (2, .ref (ad a2))]) rfl ?_
  unfold f_X2_fadeLoads at hf
  refine aw_iconst X dX2_fadeLoads_0 ?_
  refine aw_istore_n X [(3, z_i 0), (0, .ref (ad 743)), (1, .ref (ad a1)), (2, .ref (ad a2))] dX2_fadeLoads_1 rfl (by decide) rfl ?_
  refine aw_sub [1, 2, 3, 0] rfl ?_
  exact A_X2_fadeLoads_2 X hr 100000 a1 h_a1 a2 h_a2 0 (z_lit (x := 0) (by decide)) σ hf
-- SpeedDesk$Clockwork.passMany(LSpeedDesk$Chip;LSpeedDesk$State;I)I
section S_X2_passMany
variable {p : Program} {l : Launch} {e : Env} {s : State} {m : MethodId} {args : Array Value} {below : List Frame} {meth : Method} {c : Code} {D : va_G} {cA : Nat → ClassId} {sa ad : Nat → Nat} {bs : Nat} {q : (Int × (Nat → Nat → Int))}
set_option maxHeartbeats 4000000 in
set_option maxRecDepth 100000 in
theorem A_X2_passMany_66 (X : AX p s m args meth c D cA sa bs cX2_passMany 8 RX2) (hr : meth.sig.returnType = (some .int)) (K9 : Nat → Nat → Int → Int → Int → (Nat → Nat → Int) → Option (Int × (Nat → Nat → Int))) (hK9 : ∀ (a1 : Nat) (h_a1 : a1 ∈ ax_iX1) (a2 : Nat) (h_a2 : a2 ∈ ax_iX7) (v3 : Int) (c_v3 : Z_I v3) (v4 : Int) (c_v4 : Z_I v4) (v5 : Int) (c_v5 : Z_I v5) (σ : Nat → Nat → Int), K9 a1 a2 v3 v4 v5 σ = some q → AW p l e (ax_rm 3 0 0) s m args below meth c D cA ad bs 788 SHp 0 0 (ax_MQ below args s D cA ad bs 788 SHp 0 0 (some (z_i q.1)) (Z_I q.1) q.2) 8 9 [(0, .ref (ad 743)), (1, .ref (ad a1)), (2, .ref (ad a2)), (3, z_i v3), (4, z_i v4), (5, z_i v5)] [] σ) : ∀ (k : Nat) (a1 : Nat) (h_a1 : a1 ∈ ax_iX1) (a2 : Nat) (h_a2 : a2 ∈ ax_iX7) (v3 : Int) (c_v3 : Z_I v3) (v4 : Int) (c_v4 : Z_I v4) (v5 : Int) (c_v5 : Z_I v5) (v6 : Int) (c_v6 : Z_I v6) (v7 : Int) (c_v7 : Z_I v7) (σ : Nat → Nat → Int), f_X2_passMany_66 K9 k a1 a2 v3 v4 v5 v6 v7 σ = some q → AW p l e (ax_rm 3 0 0) s m args below meth c D cA ad bs 788 SHp 0 0 (ax_MQ below args s D cA ad bs 788 SHp 0 0 (some (z_i q.1)) (Z_I q.1) q.2) 8 66 [(0, .ref (ad 743)), (1, .ref (ad a1)), (2, .ref (ad a2)), (3, z_i v3), (4, z_i v4), (5, z_i v5), (6, z_i v6), (7, z_i v7)] [] σ := by
  intro k
  induction k with
  | zero =>
    intro a1 h_a1 a2 h_a2 v3 c_v3 v4 c_v4 v5 c_v5 v6 c_v6 v7 c_v7 σ hf
    unfold f_X2_passMany_66 at hf
    cases hf
  | succ k ih =>
    intro a1 h_a1 a2 h_a2 v3 c_v3 v4 c_v4 v5 c_v5 v6 c_v6 v7 c_v7 σ hf
    unfold f_X2_passMany_66 at hf
    refine aw_iload X 7 dX2_passMany_66 rfl ?_
    refine aw_aload_n X 1 dX2_passMany_68 rfl rfl ?_
    refine aw_getI X (sX1_0 a1 h_a1) fX2_42 rfl dX2_passMany_69 (fun c18 => ?_)
    refine aw_icmp_ge X (tgt := 94) c_v7 c18 dX2_passMany_72 (by decide) (fun h19 => ?_) (fun h19 => ?_)
    · rw [if_pos h19] at hf
      refine aw_aload_n X 0 dX2_passMany_94 rfl rfl ?_
      refine aw_aload_n X 1 dX2_passMany_95 rfl rfl ?_
      refine aw_aload_n X 2 dX2_passMany_96 rfl rfl ?_
      obtain ⟨q20, e21, hf⟩ := z_bd hf
      refine aw_callV X [.ref (ad a1), .ref (ad a2)] [] [] cX2_48 s_743 ciX2 (C_X2_fadeLoads l D cA sa ad bs a1 h_a1 a2 h_a2 σ q20 e21) rfl ⟨(Nat.le_of_ble_eq_true rfl), (Nat.le_of_ble_eq_true rfl), (Nat.le_of_ble_eq_true rfl), (Nat.le_of_ble_eq_true rfl)⟩ rfl (Nat.le_of_ble_eq_true rfl) rfl dX2_passMany_97 (fun p22 => ?_)
      refine aw_aload_n X 2 dX2_passMany_100 rfl rfl ?_
      refine aw_dup X dX2_passMany_101 rfl ?_
      refine aw_getI X (sX7_0 a2 h_a2) fX2_51 rfl dX2_passMany_102 (fun c23 => ?_)
      refine aw_iload X 6 dX2_passMany_105 rfl ?_
      refine aw_aload_n X 2 dX2_passMany_107 rfl rfl ?_
      refine aw_getI X (sX7_0 a2 h_a2) fX2_51 rfl dX2_passMany_108 (fun c24 => ?_)
      refine aw_aload_n X 1 dX2_passMany_111 rfl rfl ?_
      refine aw_getR X (sX1_0 a1 h_a1) fX2_54 rfl dX2_passMany_112 ?_
      refine aw_iconst X dX2_passMany_115 ?_
      refine aw_iald X (j := 5) (sX1_18 a1 h_a1) (z_lit (x := 5) (by decide)) (by decide) (by decide) rfl dX2_passMany_116 (fun c25 => ?_)
      obtain ⟨q26, e27, hf⟩ := z_bd hf
      refine aw_callN X [z_i (q20 a2 1), z_i (q20 (a1 + 18) 5)] [z_i v6, z_i (q20 a2 1), .ref (ad a2)] [z_i q26, z_i v6, z_i (q20 a2 1), .ref (ad a2)] cX2_57 (C_X11_cut l D cA sa ad bs (q20 a2 1) c24 (q20 (a1 + 18) 5) c25 q20 q26 e27) rfl ⟨(Nat.le_of_ble_eq_true rfl), (Nat.le_of_ble_eq_true rfl), (Nat.le_of_ble_eq_true rfl), (Nat.le_of_ble_eq_true rfl)⟩ rfl (Nat.le_of_ble_eq_true rfl) rfl dX2_passMany_117 (fun p28 => ?_)
      refine aw_isub X dX2_passMany_120 ?_
      refine aw_iadd X dX2_passMany_121 ?_
      refine aw_putI X (sX7_0 a2 h_a2) pX2_51 rfl (z_w_in _) dX2_passMany_122 ?_
      refine aw_aload_n X 2 dX2_passMany_125 rfl rfl ?_
      refine aw_dup X dX2_passMany_126 rfl ?_
      refine aw_getI X (sX7_0 a2 h_a2) fX2_15 rfl dX2_passMany_127 (fun c29 => ?_)
      refine aw_iload X 6 dX2_passMany_130 rfl ?_
      refine aw_iadd X dX2_passMany_132 ?_
      refine aw_putI X (sX7_0 a2 h_a2) pX2_15 rfl (z_w_in _) dX2_passMany_133 ?_
      refine aw_aload_n X 2 dX2_passMany_136 rfl rfl ?_
      refine aw_dup X dX2_passMany_137 rfl ?_
      refine aw_getI X (sX7_0 a2 h_a2) fX2_61 rfl dX2_passMany_138 (fun c30 => ?_)
      refine aw_iconst X dX2_passMany_141 ?_
      refine aw_iadd X dX2_passMany_142 ?_
      refine aw_putI X (sX7_0 a2 h_a2) pX2_61 rfl (z_w_in _) dX2_passMany_143 ?_
      refine aw_iinc X 5 [(5, z_i (z_w (v5 + 1))), (0, .ref (ad 743)), (1, .ref (ad a1)), (2, .ref (ad a2)), (3, z_i v3), (4, z_i v4), (6, z_i v6), (7, z_i v7)] dX2_passMany_146 rfl (by decide) rfl ?_
      refine aw_goto X (tgt := 9) dX2_passMany_149 (by decide) ?_
      refine aw_sub [1, 2, 3, 4, 5, 0] rfl ?_
      exact hK9 a1 h_a1 a2 h_a2 v3 c_v3 v4 c_v4 (z_w (v5 + 1)) (z_w_in _) (u2 (u2 (u2 q20 a2 1 (z_w ((q20 a2 1) + (z_w (v6 - q26))))) a2 2 (z_w (((u2 q20 a2 1 (z_w ((q20 a2 1) + (z_w (v6 - q26))))) a2 2) + v6))) a2 0 (z_w (((u2 (u2 q20 a2 1 (z_w ((q20 a2 1) + (z_w (v6 - q26))))) a2 2 (z_w (((u2 q20 a2 1 (z_w ((q20 a2 1) + (z_w (v6 - q26))))) a2 2) + v6))) a2 0) + 1))) hf
    · rw [if_neg h19] at hf
      refine aw_iload X 6 dX2_passMany_75 rfl ?_
      refine aw_aload_n X 0 dX2_passMany_77 rfl rfl ?_
      refine aw_aload_n X 1 dX2_passMany_78 rfl rfl ?_
      refine aw_aload_n X 2 dX2_passMany_79 rfl rfl ?_
      refine aw_iload X 7 dX2_passMany_80 rfl ?_
      obtain ⟨q31, e32, hf⟩ := z_bd hf
      refine aw_callV X [.ref (ad a1), .ref (ad a2), z_i v7] [z_i v6] [z_i q31.1, z_i v6] cX2_45 s_743 ciX2 (C_X2_work l D cA sa ad bs a1 h_a1 a2 h_a2 v7 c_v7 σ q31 e32) rfl ⟨(Nat.le_of_ble_eq_true rfl), (Nat.le_of_ble_eq_true rfl), (Nat.le_of_ble_eq_true rfl), (Nat.le_of_ble_eq_true rfl)⟩ rfl (Nat.le_of_ble_eq_true rfl) rfl dX2_passMany_82 (fun p33 => ?_)
      refine aw_iadd X dX2_passMany_85 ?_
      refine aw_istore X [(6, z_i (z_w (v6 + q31.1))), (0, .ref (ad 743)), (1, .ref (ad a1)), (2, .ref (ad a2)), (3, z_i v3), (4, z_i v4), (5, z_i v5), (7, z_i v7)] dX2_passMany_86 (by decide) rfl ?_
      refine aw_iinc X 7 [(7, z_i (z_w (v7 + 1))), (6, z_i (z_w (v6 + q31.1))), (0, .ref (ad 743)), (1, .ref (ad a1)), (2, .ref (ad a2)), (3, z_i v3), (4, z_i v4), (5, z_i v5)] dX2_passMany_88 rfl (by decide) rfl ?_
      refine aw_goto X (tgt := 66) dX2_passMany_91 (by decide) ?_
      refine aw_sub [2, 3, 4, 5, 6, 7, 1, 0] rfl ?_
      exact ih a1 h_a1 a2 h_a2 v3 c_v3 v4 c_v4 v5 c_v5 (z_w (v6 + q31.1)) (z_w_in _) (z_w (v7 + 1)) (z_w_in _) q31.2 hf
set_option maxHeartbeats 4000000 in
set_option maxRecDepth 100000 in
theorem A_X2_passMany_32 (X : AX p s m args meth c D cA sa bs cX2_passMany 8 RX2) (hr : meth.sig.returnType = (some .int)) (K9 : Nat → Nat → Int → Int → Int → (Nat → Nat → Int) → Option (Int × (Nat → Nat → Int))) (hK9 : ∀ (a1 : Nat) (h_a1 : a1 ∈ ax_iX1) (a2 : Nat) (h_a2 : a2 ∈ ax_iX7) (v3 : Int) (c_v3 : Z_I v3) (v4 : Int) (c_v4 : Z_I v4) (v5 : Int) (c_v5 : Z_I v5) (σ : Nat → Nat → Int), K9 a1 a2 v3 v4 v5 σ = some q → AW p l e (ax_rm 3 0 0) s m args below meth c D cA ad bs 788 SHp 0 0 (ax_MQ below args s D cA ad bs 788 SHp 0 0 (some (z_i q.1)) (Z_I q.1) q.2) 8 9 [(0, .ref (ad 743)), (1, .ref (ad a1)), (2, .ref (ad a2)), (3, z_i v3), (4, z_i v4), (5, z_i v5)] [] σ) : ∀ (k : Nat) (a1 : Nat) (h_a1 : a1 ∈ ax_iX1) (a2 : Nat) (h_a2 : a2 ∈ ax_iX7) (v3 : Int) (c_v3 : Z_I v3) (v4 : Int) (c_v4 : Z_I v4) (v5 : Int) (c_v5 : Z_I v5) (v6 : Int) (c_v6 : Z_I v6) (v7 : Int) (c_v7 : Z_I v7) (σ : Nat → Nat → Int), f_X2_passMany_32 K9 k a1 a2 v3 v4 v5 v6 v7 σ = some q → AW p l e (ax_rm 3 0 0) s m args below meth c D cA ad bs 788 SHp 0 0 (ax_MQ below args s D cA ad bs 788 SHp 0 0 (some (z_i q.1)) (Z_I q.1) q.2) 8 32 [(0, .ref (ad 743)), (1, .ref (ad a1)), (2, .ref (ad a2)), (3, z_i v3), (4, z_i v4), (5, z_i v5), (6, z_i v6), (7, z_i v7)] [] σ := by
  intro k
  induction k with
  | zero =>
    intro a1 h_a1 a2 h_a2 v3 c_v3 v4 c_v4 v5 c_v5 v6 c_v6 v7 c_v7 σ hf
    unfold f_X2_passMany_32 at hf
    cases hf
  | succ k ih =>
    intro a1 h_a1 a2 h_a2 v3 c_v3 v4 c_v4 v5 c_v5 v6 c_v6 v7 c_v7 σ hf
    unfold f_X2_passMany_32 at hf
    refine aw_iload X 7 dX2_passMany_32 rfl ?_
    refine aw_aload_n X 1 dX2_passMany_34 rfl rfl ?_
    refine aw_getI X (sX1_0 a1 h_a1) fX2_29 rfl dX2_passMany_35 (fun c10 => ?_)
    refine aw_icmp_ge X (tgt := 63) c_v7 c10 dX2_passMany_38 (by decide) (fun h11 => ?_) (fun h11 => ?_)
    · rw [if_pos h11] at hf
      refine aw_iconst X dX2_passMany_63 ?_
      refine aw_istore X [(7, z_i 0), (0, .ref (ad 743)), (1, .ref (ad a1)), (2, .ref (ad a2)), (3, z_i v3), (4, z_i v4), (5, z_i v5), (6, z_i v6)] dX2_passMany_64 (by decide) rfl ?_
      refine aw_sub [1, 2, 3, 4, 5, 6, 7, 0] rfl ?_
      exact A_X2_passMany_66 X hr K9 hK9 100000 a1 h_a1 a2 h_a2 v3 c_v3 v4 c_v4 v5 c_v5 v6 c_v6 0 (z_lit (x := 0) (by decide)) σ hf
    · rw [if_neg h11] at hf
      refine aw_aload_n X 0 dX2_passMany_41 rfl rfl ?_
      refine aw_aload_n X 1 dX2_passMany_42 rfl rfl ?_
      refine aw_aload_n X 2 dX2_passMany_43 rfl rfl ?_
      refine aw_iload X 7 dX2_passMany_44 rfl ?_
      refine aw_aload_n X 0 dX2_passMany_46 rfl rfl ?_
      refine aw_aload_n X 1 dX2_passMany_47 rfl rfl ?_
      refine aw_aload_n X 2 dX2_passMany_48 rfl rfl ?_
      refine aw_iload X 7 dX2_passMany_49 rfl ?_
      obtain ⟨q12, e13, hf⟩ := z_bd hf
      refine aw_callV X [.ref (ad a1), .ref (ad a2), z_i v7] [z_i v7, .ref (ad a2), .ref (ad a1), .ref (ad 743)] [z_i q12, z_i v7, .ref (ad a2), .ref (ad a1), .ref (ad 743)] cX2_34 s_743 ciX2 (C_X2_wantOf l D cA sa ad bs a1 h_a1 a2 h_a2 v7 c_v7 σ q12 e13) rfl ⟨(Nat.le_of_ble_eq_true rfl), (Nat.le_of_ble_eq_true rfl), (Nat.le_of_ble_eq_true rfl), (Nat.le_of_ble_eq_true rfl)⟩ rfl (Nat.le_of_ble_eq_true rfl) rfl dX2_passMany_51 (fun p14 => ?_)
      obtain ⟨q15, e16, hf⟩ := z_bd hf
      refine aw_callV X [.ref (ad a1), .ref (ad a2), z_i v7, z_i q12] [] [] cX2_38 s_743 ciX2 (C_X2_goTowards l D cA sa ad bs a1 h_a1 a2 h_a2 v7 c_v7 q12 p14 σ q15 e16) rfl ⟨(Nat.le_of_ble_eq_true rfl), (Nat.le_of_ble_eq_true rfl), (Nat.le_of_ble_eq_true rfl), (Nat.le_of_ble_eq_true rfl)⟩ rfl (Nat.le_of_ble_eq_true rfl) rfl dX2_passMany_54 (fun p17 => ?_)
      refine aw_iinc X 7 [(7, z_i (z_w (v7 + 1))), (0, .ref (ad 743)), (1, .ref (ad a1)), (2, .ref (ad a2)), (3, z_i v3), (4, z_i v4), (5, z_i v5), (6, z_i v6)] dX2_passMany_57 rfl (by decide) rfl ?_
      refine aw_goto X (tgt := 32) dX2_passMany_60 (by decide) ?_
      refine aw_sub [1, 2, 3, 4, 5, 6, 7, 0] rfl ?_
      exact ih a1 h_a1 a2 h_a2 v3 c_v3 v4 c_v4 v5 c_v5 v6 c_v6 (z_w (v7 + 1)) (z_w_in _) q15 hf
set_option maxHeartbeats 4000000 in
set_option maxRecDepth 100000 in
theorem A_X2_passMany_9 (X : AX p s m args meth c D cA sa bs cX2_passMany 8 RX2) (hr : meth.sig.returnType = (some .int)) : ∀ (k : Nat) (a1 : Nat) (h_a1 : a1 ∈ ax_iX1) (a2 : Nat) (h_a2 : a2 ∈ ax_iX7) (v3 : Int) (c_v3 : Z_I v3) (v4 : Int) (c_v4 : Z_I v4) (v5 : Int) (c_v5 : Z_I v5) (σ : Nat → Nat → Int), f_X2_passMany_9 k a1 a2 v3 v4 v5 σ = some q → AW p l e (ax_rm 3 0 0) s m args below meth c D cA ad bs 788 SHp 0 0 (ax_MQ below args s D cA ad bs 788 SHp 0 0 (some (z_i q.1)) (Z_I q.1) q.2) 8 9 [(0, .ref (ad 743)), (1, .ref (ad a1)), (2, .ref (ad a2)), (3, z_i v3), (4, z_i v4), (5, z_i v5)] [] σ := by
  intro k
  induction k with
  | zero =>
    intro a1 h_a1 a2 h_a2 v3 c_v3 v4 c_v4 v5 c_v5 σ hf
    unfold f_X2_passMany_9 at hf
    cases hf
  | succ k ih =>
    intro a1 h_a1 a2 h_a2 v3 c_v3 v4 c_v4 v5 c_v5 σ hf
    unfold f_X2_passMany_9 at hf
    refine aw_iload X 5 dX2_passMany_9 rfl ?_
    refine aw_iload_n X 3 dX2_passMany_11 rfl rfl ?_
    refine aw_icmp_ge X (tgt := 152) c_v5 c_v3 dX2_passMany_12 (by decide) (fun h2 => ?_) (fun h2 => ?_)
    · rw [if_pos h2] at hf
      refine aw_aload_n X 2 dX2_passMany_152 rfl rfl ?_
      refine aw_getI X (sX7_0 a2 h_a2) fX2_15 rfl dX2_passMany_153 (fun c3 => ?_)
      refine aw_iload X 4 dX2_passMany_156 rfl ?_
      refine aw_isub X dX2_passMany_158 ?_
      obtain rfl := Option.some.inj hf
      exact aw_iret X (z_w_in _) hr rfl dX2_passMany_159
    · rw [if_neg h2] at hf
      refine aw_aload_n X 0 dX2_passMany_15 rfl rfl ?_
      refine aw_aload_n X 1 dX2_passMany_16 rfl rfl ?_
      refine aw_aload_n X 2 dX2_passMany_17 rfl rfl ?_
      obtain ⟨q4, e5, hf⟩ := z_bd hf
      refine aw_callV X [.ref (ad a1), .ref (ad a2)] [] [] cX2_21 s_743 ciX2 (C_X2_release l D cA sa ad bs a1 h_a1 a2 h_a2 σ q4 e5) rfl ⟨(Nat.le_of_ble_eq_true rfl), (Nat.le_of_ble_eq_true rfl), (Nat.le_of_ble_eq_true rfl), (Nat.le_of_ble_eq_true rfl)⟩ rfl (Nat.le_of_ble_eq_true rfl) rfl dX2_passMany_18 (fun p6 => ?_)
      refine aw_aload_n X 0 dX2_passMany_21 rfl rfl ?_
      refine aw_aload_n X 1 dX2_passMany_22 rfl rfl ?_
      refine aw_aload_n X 2 dX2_passMany_23 rfl rfl ?_
      obtain ⟨q7, e8, hf⟩ := z_bd hf
      refine aw_callV X [.ref (ad a1), .ref (ad a2)] [] [z_i q7.1] cX2_25 s_743 ciX2 (C_X2_wakeCores l D cA sa ad bs a1 h_a1 a2 h_a2 q4 q7 e8) rfl ⟨(Nat.le_of_ble_eq_true rfl), (Nat.le_of_ble_eq_true rfl), (Nat.le_of_ble_eq_true rfl), (Nat.le_of_ble_eq_true rfl)⟩ rfl (Nat.le_of_ble_eq_true rfl) rfl dX2_passMany_24 (fun p9 => ?_)
      refine aw_istore X [(6, z_i q7.1), (0, .ref (ad 743)), (1, .ref (ad a1)), (2, .ref (ad a2)), (3, z_i v3), (4, z_i v4), (5, z_i v5)] dX2_passMany_27 (by decide) rfl ?_
      refine aw_iconst X dX2_passMany_29 ?_
      refine aw_istore X [(7, z_i 0), (6, z_i q7.1), (0, .ref (ad 743)), (1, .ref (ad a1)), (2, .ref (ad a2)), (3, z_i v3), (4, z_i v4), (5, z_i v5)] dX2_passMany_30 (by decide) rfl ?_
      refine aw_sub [2, 3, 4, 5, 6, 7, 1, 0] rfl ?_
      exact A_X2_passMany_32 X hr (f_X2_passMany_9 k) ih 100000 a1 h_a1 a2 h_a2 v3 c_v3 v4 c_v4 v5 c_v5 q7.1 p9 0 (z_lit (x := 0) (by decide)) q7.2 hf
end S_X2_passMany
set_option maxHeartbeats 4000000 in
set_option maxRecDepth 100000 in
theorem C_X2_passMany (l : Launch) (D : va_G) (cA : Nat → ClassId) (sa ad : Nat → Nat) (bs : Nat) (a1 : Nat) (h_a1 : a1 ∈ ax_iX1) (a2 : Nat) (h_a2 : a2 ∈ ax_iX7) (v3 : Int) (c_v3 : Z_I v3) (σ : Nat → Nat → Int) (q : (Int × (Nat → Nat → Int))) (hf : f_X2_passMany a1 a2 v3 σ = some q) : AM l D cA sa ad bs 788 SHp yX2_passMany cX2_passMany 8 (some .int) 3 [.ref (ad 743), .ref (ad a1), .ref (ad a2), z_i v3] σ (some (z_i q.1)) (Z_I q.1) q.2 := by
  refine am_of (by decide +kernel) (Nat.le_of_ble_eq_true rfl) (fun p e s m args below meth c X hr => ?_)
  refine aw_lv (lv' := [(0, .ref (ad 743)), (1, .ref (ad a1)), (2, .ref (ad a2)), (3, z_i v3)]) rfl ?_
  unfold f_X2_passMany at hf
  refine aw_aload_n X 2 dX2_passMany_0 rfl rfl ?_
  refine aw_getI X (sX7_0 a2 h_a2) fX2_15 rfl dX2_passMany_1 (fun c1 => ?_)
  refine aw_istore X [(4, z_i (σ a2 2)), (0, .ref (ad 743)), (1, .ref (ad a1)), (2, .ref (ad a2)), (3, z_i v3)] dX2_passMany_4 (by decide) rfl ?_
  refine aw_iconst X dX2_passMany_6 ?_
  refine aw_istore X [(5, z_i 0), (4, z_i (σ a2 2)), (0, .ref (ad 743)), (1, .ref (ad a1)), (2, .ref (ad a2)), (3, z_i v3)] dX2_passMany_7 (by decide) rfl ?_
  refine aw_sub [2, 3, 4, 5, 1, 0] rfl ?_
  exact A_X2_passMany_9 X hr 100000 a1 h_a1 a2 h_a2 v3 c_v3 (σ a2 2) c1 0 (z_lit (x := 0) (by decide)) σ hf
-- SpeedDesk$Planner.look(LSpeedDesk$Chip;LSpeedDesk$State;)V
section S_X5_look
variable {p : Program} {l : Launch} {e : Env} {s : State} {m : MethodId} {args : Array Value} {below : List Frame} {meth : Method} {c : Code} {D : va_G} {cA : Nat → ClassId} {sa ad : Nat → Nat} {bs : Nat} {q : (Nat → Nat → Int)}
set_option maxHeartbeats 4000000 in
set_option maxRecDepth 100000 in
theorem A_X5_look_41 (X : AX p s m args meth c D cA sa bs cX5_look 4 RX5) (hr : meth.sig.returnType = none) : ∀ (k : Nat) (a1 : Nat) (h_a1 : a1 ∈ ax_iX1) (a2 : Nat) (h_a2 : a2 ∈ ax_iX7) (v3 : Int) (c_v3 : Z_I v3) (σ : Nat → Nat → Int), f_X5_look_41 k a1 a2 v3 σ = some q → AW p l e (ax_rm 2 0 0) s m args below meth c D cA ad bs 788 SHp 0 0 (ax_MQ below args s D cA ad bs 788 SHp 0 0 none True q) 4 41 [(0, .ref (ad 745)), (1, .ref (ad a1)), (2, .ref (ad a2)), (3, z_i v3)] [] σ := by
  intro k
  induction k with
  | zero =>
    intro a1 h_a1 a2 h_a2 v3 c_v3 σ hf
    unfold f_X5_look_41 at hf
    cases hf
  | succ k ih =>
    intro a1 h_a1 a2 h_a2 v3 c_v3 σ hf
    unfold f_X5_look_41 at hf
    refine aw_iload_n X 3 dX5_look_41 rfl rfl ?_
    refine aw_aload_n X 1 dX5_look_42 rfl rfl ?_
    refine aw_getI X (sX1_0 a1 h_a1) fX5_111 rfl dX5_look_43 (fun c12 => ?_)
    refine aw_icmp_ge X (tgt := 78) c_v3 c12 dX5_look_46 (by decide) (fun h13 => ?_) (fun h13 => ?_)
    · rw [if_pos h13] at hf
      obtain rfl := Option.some.inj hf
      exact aw_vret X trivial hr rfl dX5_look_78
    · rw [if_neg h13] at hf
      refine aw_aload_n X 0 dX5_look_49 rfl rfl ?_
      refine aw_getR X s_745 fX5_21 rfl dX5_look_50 ?_
      refine aw_iload_n X 3 dX5_look_53 rfl rfl ?_
      refine aw_aload_n X 2 dX5_look_54 rfl rfl ?_
      refine aw_iload_n X 3 dX5_look_55 rfl rfl ?_
      obtain ⟨q14, e15, hf⟩ := z_bd hf
      refine aw_callV X [z_i v3] [z_i v3, .ref (ad 749)] [z_i q14, z_i v3, .ref (ad 749)] cX5_126 (sX7_0 a2 h_a2) ciX7 (C_X7_lowOf l D cA sa ad bs a2 h_a2 v3 c_v3 σ q14 e15) rfl ⟨(Nat.le_of_ble_eq_true rfl), (Nat.le_of_ble_eq_true rfl), (Nat.le_of_ble_eq_true rfl), (Nat.le_of_ble_eq_true rfl)⟩ rfl (Nat.le_of_ble_eq_true rfl) rfl dX5_look_56 (fun p16 => ?_)
      obtain ⟨g17, hf⟩ := z_gd hf
      refine aw_iast X (j := v3.toNat) s_749 c_v3 g17.1 g17.2 rfl p16 dX5_look_59 ?_
      refine aw_aload_n X 0 dX5_look_60 rfl rfl ?_
      refine aw_getR X s_745 fX5_24 rfl dX5_look_61 ?_
      refine aw_iload_n X 3 dX5_look_64 rfl rfl ?_
      refine aw_aload_n X 2 dX5_look_65 rfl rfl ?_
      refine aw_aload_n X 1 dX5_look_66 rfl rfl ?_
      refine aw_iload_n X 3 dX5_look_67 rfl rfl ?_
      obtain ⟨q18, e19, hf⟩ := z_bd hf
      refine aw_callV X [.ref (ad a1), z_i v3] [z_i v3, .ref (ad 750)] [z_i q18, z_i v3, .ref (ad 750)] cX5_129 (sX7_0 a2 h_a2) ciX7 (C_X7_highOf l D cA sa ad bs a2 h_a2 a1 h_a1 v3 c_v3 (u2 σ 749 v3.toNat q14) q18 e19) rfl ⟨(Nat.le_of_ble_eq_true rfl), (Nat.le_of_ble_eq_true rfl), (Nat.le_of_ble_eq_true rfl), (Nat.le_of_ble_eq_true rfl)⟩ rfl (Nat.le_of_ble_eq_true rfl) rfl dX5_look_68 (fun p20 => ?_)
      obtain ⟨g21, hf⟩ := z_gd hf
      refine aw_iast X (j := v3.toNat) s_750 c_v3 g21.1 g21.2 rfl p20 dX5_look_71 ?_
      refine aw_iinc X 3 [(3, z_i (z_w (v3 + 1))), (0, .ref (ad 745)), (1, .ref (ad a1)), (2, .ref (ad a2))] dX5_look_72 rfl (by decide) rfl ?_
      refine aw_goto X (tgt := 41) dX5_look_75 (by decide) ?_
      refine aw_sub [1, 2, 3, 0] rfl ?_
      exact ih a1 h_a1 a2 h_a2 (z_w (v3 + 1)) (z_w_in _) (u2 (u2 σ 749 v3.toNat q14) 750 v3.toNat q18) hf
set_option maxHeartbeats 4000000 in
set_option maxRecDepth 100000 in
theorem A_X5_look_2 (X : AX p s m args meth c D cA sa bs cX5_look 4 RX5) (hr : meth.sig.returnType = none) : ∀ (k : Nat) (a1 : Nat) (h_a1 : a1 ∈ ax_iX1) (a2 : Nat) (h_a2 : a2 ∈ ax_iX7) (v3 : Int) (c_v3 : Z_I v3) (σ : Nat → Nat → Int), f_X5_look_2 k a1 a2 v3 σ = some q → AW p l e (ax_rm 2 0 0) s m args below meth c D cA ad bs 788 SHp 0 0 (ax_MQ below args s D cA ad bs 788 SHp 0 0 none True q) 4 2 [(0, .ref (ad 745)), (1, .ref (ad a1)), (2, .ref (ad a2)), (3, z_i v3)] [] σ := by
  intro k
  induction k with
  | zero =>
    intro a1 h_a1 a2 h_a2 v3 c_v3 σ hf
    unfold f_X5_look_2 at hf
    cases hf
  | succ k ih =>
    intro a1 h_a1 a2 h_a2 v3 c_v3 σ hf
    unfold f_X5_look_2 at hf
    refine aw_iload_n X 3 dX5_look_2 rfl rfl ?_
    refine aw_aload_n X 1 dX5_look_3 rfl rfl ?_
    refine aw_getI X (sX1_0 a1 h_a1) fX5_69 rfl dX5_look_4 (fun c1 => ?_)
    refine aw_icmp_ge X (tgt := 39) c_v3 c1 dX5_look_7 (by decide) (fun h2 => ?_) (fun h2 => ?_)
    · rw [if_pos h2] at hf
      refine aw_iconst X dX5_look_39 ?_
      refine aw_istore_n X [(3, z_i 0), (0, .ref (ad 745)), (1, .ref (ad a1)), (2, .ref (ad a2))] dX5_look_40 rfl (by decide) rfl ?_
      refine aw_sub [1, 2, 3, 0] rfl ?_
      exact A_X5_look_41 X hr 100000 a1 h_a1 a2 h_a2 0 (z_lit (x := 0) (by decide)) σ hf
    · rw [if_neg h2] at hf
      refine aw_aload_n X 0 dX5_look_10 rfl rfl ?_
      refine aw_getR X s_745 fX5_18 rfl dX5_look_11 ?_
      refine aw_iload_n X 3 dX5_look_14 rfl rfl ?_
      refine aw_aload_n X 2 dX5_look_15 rfl rfl ?_
      refine aw_iload_n X 3 dX5_look_16 rfl rfl ?_
      obtain ⟨q3, e4, hf⟩ := z_bd hf
      refine aw_callV X [z_i v3] [z_i v3, .ref (ad 748)] [z_i q3, z_i v3, .ref (ad 748)] cX5_118 (sX7_0 a2 h_a2) ciX7 (C_X7_isStopped l D cA sa ad bs a2 h_a2 v3 c_v3 σ q3 e4) rfl ⟨(Nat.le_of_ble_eq_true rfl), (Nat.le_of_ble_eq_true rfl), (Nat.le_of_ble_eq_true rfl), (Nat.le_of_ble_eq_true rfl)⟩ rfl (Nat.le_of_ble_eq_true rfl) rfl dX5_look_17 (fun p5 => ?_)
      refine aw_if_eq X (tgt := 27) (z_zI p5) dX5_look_20 (by decide) (fun h6 => ?_) (fun h6 => ?_)
      · rw [if_pos h6] at hf
        refine aw_aload_n X 1 dX5_look_27 rfl rfl ?_
        refine aw_iload_n X 3 dX5_look_28 rfl rfl ?_
        obtain ⟨q7, e8, hf⟩ := z_bd hf
        refine aw_callV X [z_i v3] [z_i v3, .ref (ad 748)] [z_i q7, z_i v3, .ref (ad 748)] cX5_122 (sX1_0 a1 h_a1) ciX1 (C_X1_shareOf l D cA sa ad bs a1 h_a1 v3 c_v3 σ q7 e8) rfl ⟨(Nat.le_of_ble_eq_true rfl), (Nat.le_of_ble_eq_true rfl), (Nat.le_of_ble_eq_true rfl), (Nat.le_of_ble_eq_true rfl)⟩ rfl (Nat.le_of_ble_eq_true rfl) rfl dX5_look_29 (fun p9 => ?_)
        obtain ⟨g10, hf⟩ := z_gd hf
        refine aw_iast X (j := v3.toNat) s_748 c_v3 g10.1 g10.2 rfl p9 dX5_look_32 ?_
        refine aw_iinc X 3 [(3, z_i (z_w (v3 + 1))), (0, .ref (ad 745)), (1, .ref (ad a1)), (2, .ref (ad a2))] dX5_look_33 rfl (by decide) rfl ?_
        refine aw_goto X (tgt := 2) dX5_look_36 (by decide) ?_
        refine aw_sub [1, 2, 3, 0] rfl ?_
        exact ih a1 h_a1 a2 h_a2 (z_w (v3 + 1)) (z_w_in _) (u2 σ 748 v3.toNat q7) hf
      · rw [if_neg h6] at hf
        refine aw_iconst X dX5_look_23 ?_
        refine aw_goto X (tgt := 32) dX5_look_24 (by decide) ?_
        obtain ⟨g11, hf⟩ := z_gd hf
        refine aw_iast X (j := v3.toNat) s_748 c_v3 g11.1 g11.2 rfl (z_lit (x := 0) (by decide)) dX5_look_32 ?_
        refine aw_iinc X 3 [(3, z_i (z_w (v3 + 1))), (0, .ref (ad 745)), (1, .ref (ad a1)), (2, .ref (ad a2))] dX5_look_33 rfl (by decide) rfl ?_
        refine aw_goto X (tgt := 2) dX5_look_36 (by decide) ?_
        refine aw_sub [1, 2, 3, 0] rfl ?_
        exact ih a1 h_a1 a2 h_a2 (z_w (v3 + 1)) (z_w_in _) (u2 σ 748 v3.toNat 0) hf
end S_X5_look
set_option maxHeartbeats 4000000 in
set_option maxRecDepth 100000 in
theorem C_X5_look (l : Launch) (D : va_G) (cA : Nat → ClassId) (sa ad : Nat → Nat) (bs : Nat) (a1 : Nat) (h_a1 : a1 ∈ ax_iX1) (a2 : Nat) (h_a2 : a2 ∈ ax_iX7) (σ : Nat → Nat → Int) (q : (Nat → Nat → Int)) (hf : f_X5_look a1 a2 σ = some q) : AM l D cA sa ad bs 788 SHp yX5_look cX5_look 4 none 2 [.ref (ad 745), .ref (ad a1), .ref (ad a2)] σ none True q := by
  refine am_of (by decide +kernel) (Nat.le_of_ble_eq_true rfl) (fun p e s m args below meth c X hr => ?_)
  refine aw_lv (lv' := [(0, .ref (ad 745)), (1, .ref (ad a1)), (2, .ref (ad a2))]) rfl ?_
  unfold f_X5_look at hf
  refine aw_iconst X dX5_look_0 ?_
  refine aw_istore_n X [(3, z_i 0), (0, .ref (ad 745)), (1, .ref (ad a1)), (2, .ref (ad a2))] dX5_look_1 rfl (by decide) rfl ?_
  refine aw_sub [1, 2, 3, 0] rfl ?_
  exact A_X5_look_2 X hr 100000 a1 h_a1 a2 h_a2 0 (z_lit (x := 0) (by decide)) σ hf
-- SpeedDesk$Planner.addUp(LSpeedDesk$Chip;)V
section S_X5_addUp
variable {p : Program} {l : Launch} {e : Env} {s : State} {m : MethodId} {args : Array Value} {below : List Frame} {meth : Method} {c : Code} {D : va_G} {cA : Nat → ClassId} {sa ad : Nat → Nat} {bs : Nat} {q : (Nat → Nat → Int)}
set_option maxHeartbeats 4000000 in
set_option maxRecDepth 100000 in
theorem A_X5_addUp_25 (X : AX p s m args meth c D cA sa bs cX5_addUp 3 RX5) (hr : meth.sig.returnType = none) : ∀ (k : Nat) (a1 : Nat) (h_a1 : a1 ∈ ax_iX1) (v2 : Int) (c_v2 : Z_I v2) (σ : Nat → Nat → Int), f_X5_addUp_25 k a1 v2 σ = some q → AW p l e (ax_rm 1 0 0) s m args below meth c D cA ad bs 788 SHp 0 0 (ax_MQ below args s D cA ad bs 788 SHp 0 0 none True q) 3 25 [(0, .ref (ad 745)), (1, .ref (ad a1)), (2, z_i v2)] [] σ := by
  intro k
  induction k with
  | zero =>
    intro a1 h_a1 v2 c_v2 σ hf
    unfold f_X5_addUp_25 at hf
    cases hf
  | succ k ih =>
    intro a1 h_a1 v2 c_v2 σ hf
    unfold f_X5_addUp_25 at hf
    refine aw_iload_n X 2 dX5_addUp_25 rfl rfl ?_
    refine aw_aload_n X 1 dX5_addUp_26 rfl rfl ?_
    refine aw_getI X (sX1_0 a1 h_a1) fX5_69 rfl dX5_addUp_27 (fun c4 => ?_)
    refine aw_icmp_ge X (tgt := 72) c_v2 c4 dX5_addUp_30 (by decide) (fun h5 => ?_) (fun h5 => ?_)
    · rw [if_pos h5] at hf
      obtain rfl := Option.some.inj hf
      exact aw_vret X trivial hr rfl dX5_addUp_72
    · rw [if_neg h5] at hf
      refine aw_aload_n X 1 dX5_addUp_33 rfl rfl ?_
      refine aw_aload_n X 0 dX5_addUp_34 rfl rfl ?_
      refine aw_getR X s_745 fX5_9 rfl dX5_addUp_35 ?_
      refine aw_iload_n X 2 dX5_addUp_38 rfl rfl ?_
      obtain ⟨g6, hf⟩ := z_gd hf
      refine aw_iald X (j := v2.toNat) s_746 c_v2 g6.1 g6.2 rfl dX5_addUp_39 (fun c7 => ?_)
      obtain ⟨q8, e9, hf⟩ := z_bd hf
      refine aw_callV X [z_i (σ 746 v2.toNat)] [] [z_i q8] cX5_135 (sX1_0 a1 h_a1) ciX1 (C_X1_hasCore l D cA sa ad bs a1 h_a1 (σ 746 v2.toNat) c7 σ q8 e9) rfl ⟨(Nat.le_of_ble_eq_true rfl), (Nat.le_of_ble_eq_true rfl), (Nat.le_of_ble_eq_true rfl), (Nat.le_of_ble_eq_true rfl)⟩ rfl (Nat.le_of_ble_eq_true rfl) rfl dX5_addUp_40 (fun p10 => ?_)
      refine aw_if_eq X (tgt := 66) (z_zI p10) dX5_addUp_43 (by decide) (fun h11 => ?_) (fun h11 => ?_)
      · rw [if_pos h11] at hf
        refine aw_iinc X 2 [(2, z_i (z_w (v2 + 1))), (0, .ref (ad 745)), (1, .ref (ad a1))] dX5_addUp_66 rfl (by decide) rfl ?_
        refine aw_goto X (tgt := 25) dX5_addUp_69 (by decide) ?_
        refine aw_sub [1, 2, 0] rfl ?_
        exact ih a1 h_a1 (z_w (v2 + 1)) (z_w_in _) σ hf
      · rw [if_neg h11] at hf
        refine aw_aload_n X 0 dX5_addUp_46 rfl rfl ?_
        refine aw_getR X s_745 fX5_27 rfl dX5_addUp_47 ?_
        refine aw_aload_n X 0 dX5_addUp_50 rfl rfl ?_
        refine aw_getR X s_745 fX5_9 rfl dX5_addUp_51 ?_
        refine aw_iload_n X 2 dX5_addUp_54 rfl rfl ?_
        obtain ⟨g12, hf⟩ := z_gd hf
        refine aw_iald X (j := v2.toNat) s_746 c_v2 g12.1 g12.2 rfl dX5_addUp_55 (fun c13 => ?_)
        refine aw_dup2 X dX5_addUp_56 rfl rfl ?_
        obtain ⟨g14, hf⟩ := z_gd hf
        refine aw_iald X (j := (σ 746 v2.toNat).toNat) s_751 c13 g14.1 g14.2 rfl dX5_addUp_57 (fun c15 => ?_)
        refine aw_aload_n X 0 dX5_addUp_58 rfl rfl ?_
        refine aw_getR X s_745 fX5_18 rfl dX5_addUp_59 ?_
        refine aw_iload_n X 2 dX5_addUp_62 rfl rfl ?_
        obtain ⟨g16, hf⟩ := z_gd hf
        refine aw_iald X (j := v2.toNat) s_748 c_v2 g16.1 g16.2 rfl dX5_addUp_63 (fun c17 => ?_)
        refine aw_iadd X dX5_addUp_64 ?_
        obtain ⟨g18, hf⟩ := z_gd hf
        refine aw_iast X (j := (σ 746 v2.toNat).toNat) s_751 c13 g18.1 g18.2 rfl (z_w_in _) dX5_addUp_65 ?_
        refine aw_iinc X 2 [(2, z_i (z_w (v2 + 1))), (0, .ref (ad 745)), (1, .ref (ad a1))] dX5_addUp_66 rfl (by decide) rfl ?_
        refine aw_goto X (tgt := 25) dX5_addUp_69 (by decide) ?_
        refine aw_sub [1, 2, 0] rfl ?_
        exact ih a1 h_a1 (z_w (v2 + 1)) (z_w_in _) (u2 σ 751 (σ 746 v2.toNat).toNat (z_w ((σ 751 (σ 746 v2.toNat).toNat) + (σ 748 v2.toNat)))) hf
set_option maxHeartbeats 4000000 in
set_option maxRecDepth 100000 in
theorem A_X5_addUp_2 (X : AX p s m args meth c D cA sa bs cX5_addUp 3 RX5) (hr : meth.sig.returnType = none) : ∀ (k : Nat) (a1 : Nat) (h_a1 : a1 ∈ ax_iX1) (v2 : Int) (c_v2 : Z_I v2) (σ : Nat → Nat → Int), f_X5_addUp_2 k a1 v2 σ = some q → AW p l e (ax_rm 1 0 0) s m args below meth c D cA ad bs 788 SHp 0 0 (ax_MQ below args s D cA ad bs 788 SHp 0 0 none True q) 3 2 [(0, .ref (ad 745)), (1, .ref (ad a1)), (2, z_i v2)] [] σ := by
  intro k
  induction k with
  | zero =>
    intro a1 h_a1 v2 c_v2 σ hf
    unfold f_X5_addUp_2 at hf
    cases hf
  | succ k ih =>
    intro a1 h_a1 v2 c_v2 σ hf
    unfold f_X5_addUp_2 at hf
    refine aw_iload_n X 2 dX5_addUp_2 rfl rfl ?_
    refine aw_aload_n X 1 dX5_addUp_3 rfl rfl ?_
    refine aw_getI X (sX1_0 a1 h_a1) fX5_132 rfl dX5_addUp_4 (fun c1 => ?_)
    refine aw_icmp_ge X (tgt := 23) c_v2 c1 dX5_addUp_7 (by decide) (fun h2 => ?_) (fun h2 => ?_)
    · rw [if_pos h2] at hf
      refine aw_iconst X dX5_addUp_23 ?_
      refine aw_istore_n X [(2, z_i 0), (0, .ref (ad 745)), (1, .ref (ad a1))] dX5_addUp_24 rfl (by decide) rfl ?_
      refine aw_sub [1, 2, 0] rfl ?_
      exact A_X5_addUp_25 X hr 100000 a1 h_a1 0 (z_lit (x := 0) (by decide)) σ hf
    · rw [if_neg h2] at hf
      refine aw_aload_n X 0 dX5_addUp_10 rfl rfl ?_
      refine aw_getR X s_745 fX5_27 rfl dX5_addUp_11 ?_
      refine aw_iload_n X 2 dX5_addUp_14 rfl rfl ?_
      refine aw_iconst X dX5_addUp_15 ?_
      obtain ⟨g3, hf⟩ := z_gd hf
      refine aw_iast X (j := v2.toNat) s_751 c_v2 g3.1 g3.2 rfl (z_lit (x := 0) (by decide)) dX5_addUp_16 ?_
      refine aw_iinc X 2 [(2, z_i (z_w (v2 + 1))), (0, .ref (ad 745)), (1, .ref (ad a1))] dX5_addUp_17 rfl (by decide) rfl ?_
      refine aw_goto X (tgt := 2) dX5_addUp_20 (by decide) ?_
      refine aw_sub [1, 2, 0] rfl ?_
      exact ih a1 h_a1 (z_w (v2 + 1)) (z_w_in _) (u2 σ 751 v2.toNat 0) hf
end S_X5_addUp
set_option maxHeartbeats 4000000 in
set_option maxRecDepth 100000 in
theorem C_X5_addUp (l : Launch) (D : va_G) (cA : Nat → ClassId) (sa ad : Nat → Nat) (bs : Nat) (a1 : Nat) (h_a1 : a1 ∈ ax_iX1) (σ : Nat → Nat → Int) (q : (Nat → Nat → Int)) (hf : f_X5_addUp a1 σ = some q) : AM l D cA sa ad bs 788 SHp yX5_addUp cX5_addUp 3 none 1 [.ref (ad 745), .ref (ad a1)] σ none True q := by
  refine am_of (by decide +kernel) (Nat.le_of_ble_eq_true rfl) (fun p e s m args below meth c X hr => ?_)
  refine aw_lv (lv' := [(0, .ref (ad 745)), (1, .ref (ad a1))]) rfl ?_
  unfold f_X5_addUp at hf
  refine aw_iconst X dX5_addUp_0 ?_
  refine aw_istore_n X [(2, z_i 0), (0, .ref (ad 745)), (1, .ref (ad a1))] dX5_addUp_1 rfl (by decide) rfl ?_
  refine aw_sub [1, 2, 0] rfl ?_
  exact A_X5_addUp_2 X hr 100000 a1 h_a1 0 (z_lit (x := 0) (by decide)) σ hf
-- SpeedDesk$Planner.clusterPrice(LSpeedDesk$Chip;I)I
section S_X5_clusterPrice
variable {p : Program} {l : Launch} {e : Env} {s : State} {m : MethodId} {args : Array Value} {below : List Frame} {meth : Method} {c : Code} {D : va_G} {cA : Nat → ClassId} {sa ad : Nat → Nat} {bs : Nat} {q : Int}
set_option maxHeartbeats 4000000 in
set_option maxRecDepth 100000 in
theorem A_X5_clusterPrice_153 (X : AX p s m args meth c D cA sa bs cX5_clusterPrice 8 RX5) (hr : meth.sig.returnType = (some .int)) (σ : Nat → Nat → Int) (a1 : Nat) (h_a1 : a1 ∈ ax_iX1) (v2 : Int) (c_v2 : Z_I v2) (v4 : Int) (c_v4 : Z_I v4) (v5 : Int) (c_v5 : Z_I v5) (t0 : Int) (c_t0 : Z_I t0) (hf : f_X5_clusterPrice_153 a1 v2 v4 v5 t0 σ = some q) : AW p l e (ax_rm 1 0 0) s m args below meth c D cA ad bs 788 SHp 0 0 (ax_MQ below args s D cA ad bs 788 SHp 0 0 (some (z_i q)) (Z_I q) σ) 8 153 [(1, .ref (ad a1)), (2, z_i v2), (4, z_i v4), (5, z_i v5)] [z_i t0] σ := by
  unfold f_X5_clusterPrice_153 at hf
  refine aw_istore X [(7, z_i t0), (1, .ref (ad a1)), (2, z_i v2), (4, z_i v4), (5, z_i v5)] dX5_clusterPrice_153 (by decide) rfl ?_
  refine aw_iload X 3 dX5_clusterPrice_155 rfl ?_
  refine aw_iload X 0 dX5_clusterPrice_157 rfl ?_
  refine aw_imul X dX5_clusterPrice_159 ?_
  refine aw_iload X 4 dX5_clusterPrice_160 rfl ?_
  refine aw_aload_n X 1 dX5_clusterPrice_162 rfl rfl ?_
  refine aw_getR X (sX1_0 a1 h_a1) fX5_161 rfl dX5_clusterPrice_163 ?_
  refine aw_iload_n X 2 dX5_clusterPrice_166 rfl rfl ?_
  obtain ⟨g31, hf⟩ := z_gd hf
  refine aw_iald X (j := v2.toNat) (sX1_3 a1 h_a1) c_v2 g31.1 g31.2 rfl dX5_clusterPrice_167 (fun c32 => ?_)
  refine aw_imul X dX5_clusterPrice_168 ?_
  refine aw_iadd X dX5_clusterPrice_169 ?_
  obtain rfl := Option.some.inj hf
  exact aw_iret X (z_w_in _) hr rfl dX5_clusterPrice_170
set_option maxHeartbeats 4000000 in
set_option maxRecDepth 100000 in
theorem A_X5_clusterPrice_11 (X : AX p s m args meth c D cA sa bs cX5_clusterPrice 8 RX5) (hr : meth.sig.returnType = (some .int)) (σ : Nat → Nat → Int) : ∀ (k : Nat) (a1 : Nat) (h_a1 : a1 ∈ ax_iX1) (v2 : Int) (c_v2 : Z_I v2) (v3 : Int) (c_v3 : Z_I v3) (v4 : Int) (c_v4 : Z_I v4) (v5 : Int) (c_v5 : Z_I v5) (v6 : Int) (c_v6 : Z_I v6), f_X5_clusterPrice_11 k a1 v2 v3 v4 v5 v6 σ = some q → AW p l e (ax_rm 1 0 0) s m args below meth c D cA ad bs 788 SHp 0 0 (ax_MQ below args s D cA ad bs 788 SHp 0 0 (some (z_i q)) (Z_I q) σ) 8 11 [(0, .ref (ad 745)), (1, .ref (ad a1)), (2, z_i v2), (3, z_i v3), (4, z_i v4), (5, z_i v5), (6, z_i v6)] [] σ := by
  intro k
  induction k with
  | zero =>
    intro a1 h_a1 v2 c_v2 v3 c_v3 v4 c_v4 v5 c_v5 v6 c_v6 hf
    unfold f_X5_clusterPrice_11 at hf
    cases hf
  | succ k ih =>
    intro a1 h_a1 v2 c_v2 v3 c_v3 v4 c_v4 v5 c_v5 v6 c_v6 hf
    unfold f_X5_clusterPrice_11 at hf
    refine aw_iload X 6 dX5_clusterPrice_11 rfl ?_
    refine aw_aload_n X 1 dX5_clusterPrice_13 rfl rfl ?_
    refine aw_getI X (sX1_0 a1 h_a1) fX5_132 rfl dX5_clusterPrice_14 (fun c1 => ?_)
    refine aw_icmp_ge X (tgt := 81) c_v6 c1 dX5_clusterPrice_17 (by decide) (fun h2 => ?_) (fun h2 => ?_)
    · rw [if_pos h2] at hf
      refine aw_aload_n X 1 dX5_clusterPrice_81 rfl rfl ?_
      refine aw_iload_n X 2 dX5_clusterPrice_82 rfl rfl ?_
      refine aw_iload_n X 3 dX5_clusterPrice_83 rfl rfl ?_
      obtain ⟨q3, e4, hf⟩ := z_bd hf
      refine aw_callV X [z_i v2, z_i v3] [] [z_i q3] cX5_147 (sX1_0 a1 h_a1) ciX1 (C_X1_firstPointFor l D cA sa ad bs a1 h_a1 v2 c_v2 v3 c_v3 σ q3 e4) rfl ⟨(Nat.le_of_ble_eq_true rfl), (Nat.le_of_ble_eq_true rfl), (Nat.le_of_ble_eq_true rfl), (Nat.le_of_ble_eq_true rfl)⟩ rfl (Nat.le_of_ble_eq_true rfl) rfl dX5_clusterPrice_84 (fun p5 => ?_)
      refine aw_istore X [(6, z_i q3), (0, .ref (ad 745)), (1, .ref (ad a1)), (2, z_i v2), (3, z_i v3), (4, z_i v4), (5, z_i v5)] dX5_clusterPrice_87 (by decide) rfl ?_
      refine aw_iload X 0 dX5_clusterPrice_89 rfl ?_
      refine aw_iconst X dX5_clusterPrice_91 ?_
      refine aw_icmp_eq X (tgt := 106) p5 (z_lit (x := (-1)) (by decide)) dX5_clusterPrice_92 (by decide) (fun h6 => ?_) (fun h6 => ?_)
      · rw [if_pos h6] at hf
        refine aw_iconst X dX5_clusterPrice_106 ?_
        obtain rfl := Option.some.inj hf
        exact aw_iret X (z_lit (x := (-1)) (by decide)) hr rfl dX5_clusterPrice_107
      · rw [if_neg h6] at hf
        refine aw_iload X 0 dX5_clusterPrice_95 rfl ?_
        refine aw_aload_n X 1 dX5_clusterPrice_97 rfl rfl ?_
        refine aw_getR X s_745 fX5_24 rfl dX5_clusterPrice_98 ?_
        refine aw_iload_n X 3 dX5_clusterPrice_101 rfl rfl ?_
        obtain ⟨g7, hf⟩ := z_gd hf
        refine aw_iald X (j := v2.toNat) s_750 c_v2 g7.1 g7.2 rfl dX5_clusterPrice_102 (fun c8 => ?_)
        refine aw_icmp_le X (tgt := 108) p5 c8 dX5_clusterPrice_103 (by decide) (fun h9 => ?_) (fun h9 => ?_)
        · rw [if_pos h9] at hf
          refine aw_iload X 0 dX5_clusterPrice_108 rfl ?_
          refine aw_aload_n X 1 dX5_clusterPrice_110 rfl rfl ?_
          refine aw_getR X s_745 fX5_21 rfl dX5_clusterPrice_111 ?_
          refine aw_iload_n X 3 dX5_clusterPrice_114 rfl rfl ?_
          obtain ⟨g10, hf⟩ := z_gd hf
          refine aw_iald X (j := v2.toNat) s_749 c_v2 g10.1 g10.2 rfl dX5_clusterPrice_115 (fun c11 => ?_)
          refine aw_max X p5 c11 cX5_141 ⟨(Nat.le_of_ble_eq_true rfl), (Nat.le_of_ble_eq_true rfl), (Nat.le_of_ble_eq_true rfl), (Nat.le_of_ble_eq_true rfl)⟩ dX5_clusterPrice_116 ?_
          refine aw_aload_n X 1 dX5_clusterPrice_119 rfl rfl ?_
          refine aw_getR X s_745 fX5_24 rfl dX5_clusterPrice_120 ?_
          refine aw_iload_n X 3 dX5_clusterPrice_123 rfl rfl ?_
          obtain ⟨g12, hf⟩ := z_gd hf
          refine aw_iald X (j := v2.toNat) s_750 c_v2 g12.1 g12.2 rfl dX5_clusterPrice_124 (fun c13 => ?_)
          refine aw_min X (z_max_in p5 c11) c13 cX5_150 ⟨(Nat.le_of_ble_eq_true rfl), (Nat.le_of_ble_eq_true rfl), (Nat.le_of_ble_eq_true rfl), (Nat.le_of_ble_eq_true rfl)⟩ dX5_clusterPrice_125 ?_
          refine aw_istore X [(6, z_i (min (max q3 (σ 749 v2.toNat)) (σ 750 v2.toNat))), (0, .ref (ad 745)), (1, .ref (ad a1)), (2, z_i v2), (3, z_i v3), (4, z_i v4), (5, z_i v5)] dX5_clusterPrice_128 (by decide) rfl ?_
          refine aw_aload_n X 2 dX5_clusterPrice_130 rfl rfl ?_
          refine aw_iload_n X 3 dX5_clusterPrice_131 rfl rfl ?_
          refine aw_iload X 0 dX5_clusterPrice_132 rfl ?_
          obtain ⟨q14, e15, hf⟩ := z_bd hf
          refine aw_callV X [z_i v2, z_i (min (max q3 (σ 749 v2.toNat)) (σ 750 v2.toNat))] [] [z_i q14] cX5_153 (sX1_0 a1 h_a1) ciX1 (C_X1_hasPoint l D cA sa ad bs a1 h_a1 v2 c_v2 (min (max q3 (σ 749 v2.toNat)) (σ 750 v2.toNat)) (z_min_in (z_max_in p5 c11) c13) σ q14 e15) rfl ⟨(Nat.le_of_ble_eq_true rfl), (Nat.le_of_ble_eq_true rfl), (Nat.le_of_ble_eq_true rfl), (Nat.le_of_ble_eq_true rfl)⟩ rfl (Nat.le_of_ble_eq_true rfl) rfl dX5_clusterPrice_134 (fun p16 => ?_)
          refine aw_if_eq X (tgt := 152) (z_zI p16) dX5_clusterPrice_137 (by decide) (fun h17 => ?_) (fun h17 => ?_)
          · rw [if_pos h17] at hf
            refine aw_iconst X dX5_clusterPrice_152 ?_
            refine aw_sub [2, 3, 5, 6] rfl ?_
            exact A_X5_clusterPrice_153 X hr σ a1 h_a1 v2 c_v2 v4 c_v4 v5 c_v5 0 (z_lit (x := 0) (by decide)) hf
          · rw [if_neg h17] at hf
            refine aw_aload_n X 2 dX5_clusterPrice_140 rfl rfl ?_
            refine aw_getR X (sX1_0 a1 h_a1) fX5_157 rfl dX5_clusterPrice_141 ?_
            refine aw_iload_n X 3 dX5_clusterPrice_144 rfl rfl ?_
            obtain ⟨g18, hf⟩ := z_gd hf
            refine aw_aald X (kd := 3) (sX1_10 a1 h_a1) (by decide) c_v2 g18.1 g18.2 (tg_pts11 a1 _ (by omega)) dX5_clusterPrice_145 ?_
            refine aw_iload X 0 dX5_clusterPrice_146 rfl ?_
            obtain ⟨g19, hf⟩ := z_gd hf
            refine aw_iald X (j := (min (max q3 (σ 749 v2.toNat)) (σ 750 v2.toNat)).toNat) (sX1_pt11 a1 h_a1 v2.toNat (by omega)) (z_min_in (z_max_in p5 c11) c13) g19.1 g19.2 rfl dX5_clusterPrice_148 (fun c20 => ?_)
            refine aw_goto X (tgt := 153) dX5_clusterPrice_149 (by decide) ?_
            refine aw_sub [2, 3, 5, 6] rfl ?_
            exact A_X5_clusterPrice_153 X hr σ a1 h_a1 v2 c_v2 v4 c_v4 v5 c_v5 (σ (a1 + 11 + v2.toNat) (min (max q3 (σ 749 v2.toNat)) (σ 750 v2.toNat)).toNat) c20 hf
        · rw [if_neg h9] at hf
          refine aw_iconst X dX5_clusterPrice_106 ?_
          obtain rfl := Option.some.inj hf
          exact aw_iret X (z_lit (x := (-1)) (by decide)) hr rfl dX5_clusterPrice_107
    · rw [if_neg h2] at hf
      refine aw_aload_n X 1 dX5_clusterPrice_20 rfl rfl ?_
      refine aw_getR X (sX1_0 a1 h_a1) fX5_138 rfl dX5_clusterPrice_21 ?_
      refine aw_iload X 6 dX5_clusterPrice_24 rfl ?_
      obtain ⟨g21, hf⟩ := z_gd hf
      refine aw_iald X (j := v6.toNat) (sX1_14 a1 h_a1) c_v6 g21.1 g21.2 rfl dX5_clusterPrice_26 (fun c22 => ?_)
      refine aw_iload_n X 2 dX5_clusterPrice_27 rfl rfl ?_
      refine aw_icmp_ne X (tgt := 75) c22 c_v2 dX5_clusterPrice_28 (by decide) (fun h23 => ?_) (fun h23 => ?_)
      · rw [if_neg h23] at hf
        refine aw_iinc X 6 [(6, z_i (z_w (v6 + 1))), (0, .ref (ad 745)), (1, .ref (ad a1)), (2, z_i v2), (3, z_i v3), (4, z_i v4), (5, z_i v5)] dX5_clusterPrice_75 rfl (by decide) rfl ?_
        refine aw_goto X (tgt := 11) dX5_clusterPrice_78 (by decide) ?_
        refine aw_sub [1, 2, 3, 4, 5, 6, 0] rfl ?_
        exact ih a1 h_a1 v2 c_v2 v3 c_v3 v4 c_v4 v5 c_v5 (z_w (v6 + 1)) (z_w_in _) hf
      · rw [if_pos h23] at hf
        refine aw_iload_n X 3 dX5_clusterPrice_31 rfl rfl ?_
        refine aw_aload_n X 0 dX5_clusterPrice_32 rfl rfl ?_
        refine aw_getR X s_745 fX5_27 rfl dX5_clusterPrice_33 ?_
        refine aw_iload X 6 dX5_clusterPrice_36 rfl ?_
        obtain ⟨g24, hf⟩ := z_gd hf
        refine aw_iald X (j := v6.toNat) s_751 c_v6 g24.1 g24.2 rfl dX5_clusterPrice_38 (fun c25 => ?_)
        refine aw_max X c_v3 c25 cX5_141 ⟨(Nat.le_of_ble_eq_true rfl), (Nat.le_of_ble_eq_true rfl), (Nat.le_of_ble_eq_true rfl), (Nat.le_of_ble_eq_true rfl)⟩ dX5_clusterPrice_39 ?_
        refine aw_istore_n X [(3, z_i (max v3 (σ 751 v6.toNat))), (0, .ref (ad 745)), (1, .ref (ad a1)), (2, z_i v2), (4, z_i v4), (5, z_i v5), (6, z_i v6)] dX5_clusterPrice_42 rfl (by decide) rfl ?_
        refine aw_iload X 4 dX5_clusterPrice_43 rfl ?_
        refine aw_aload_n X 1 dX5_clusterPrice_45 rfl rfl ?_
        refine aw_getR X s_745 fX5_27 rfl dX5_clusterPrice_46 ?_
        refine aw_iload X 6 dX5_clusterPrice_49 rfl ?_
        obtain ⟨g26, hf⟩ := z_gd hf
        refine aw_iald X (j := v6.toNat) s_751 c_v6 g26.1 g26.2 rfl dX5_clusterPrice_51 (fun c27 => ?_)
        refine aw_iadd X dX5_clusterPrice_52 ?_
        refine aw_istore X [(4, z_i (z_w (v4 + (σ 751 v6.toNat)))), (3, z_i (max v3 (σ 751 v6.toNat))), (0, .ref (ad 745)), (1, .ref (ad a1)), (2, z_i v2), (5, z_i v5), (6, z_i v6)] dX5_clusterPrice_53 (by decide) rfl ?_
        refine aw_iload X 5 dX5_clusterPrice_55 rfl ?_
        refine aw_aload_n X 2 dX5_clusterPrice_57 rfl rfl ?_
        refine aw_getR X s_745 fX5_27 rfl dX5_clusterPrice_58 ?_
        refine aw_iload X 6 dX5_clusterPrice_61 rfl ?_
        obtain ⟨g28, hf⟩ := z_gd hf
        refine aw_iald X (j := v6.toNat) s_751 c_v6 g28.1 g28.2 rfl dX5_clusterPrice_63 (fun c29 => ?_)
        refine aw_if_le X (tgt := 71) c29 dX5_clusterPrice_64 (by decide) (fun h30 => ?_) (fun h30 => ?_)
        · simp only [if_pos h30] at hf
          refine aw_iconst X dX5_clusterPrice_71 ?_
          refine aw_iadd X dX5_clusterPrice_72 ?_
          refine aw_istore X [(5, z_i (z_w (v5 + 0))), (4, z_i (z_w (v4 + (σ 751 v6.toNat)))), (3, z_i (max v3 (σ 751 v6.toNat))), (0, .ref (ad 745)), (1, .ref (ad a1)), (2, z_i v2), (6, z_i v6)] dX5_clusterPrice_73 (by decide) rfl ?_
          refine aw_iinc X 6 [(6, z_i (z_w (v6 + 1))), (5, z_i (z_w (v5 + 0))), (4, z_i (z_w (v4 + (σ 751 v6.toNat)))), (3, z_i (max v3 (σ 751 v6.toNat))), (0, .ref (ad 745)), (1, .ref (ad a1)), (2, z_i v2)] dX5_clusterPrice_75 rfl (by decide) rfl ?_
          refine aw_goto X (tgt := 11) dX5_clusterPrice_78 (by decide) ?_
          refine aw_sub [4, 5, 6, 3, 2, 1, 0] rfl ?_
          exact ih a1 h_a1 v2 c_v2 (max v3 (σ 751 v6.toNat)) (z_max_in c_v3 c25) (z_w (v4 + (σ 751 v6.toNat))) (z_w_in _) (z_w (v5 + 0)) (z_w_in _) (z_w (v6 + 1)) (z_w_in _) hf
        · simp only [if_neg h30] at hf
          refine aw_iconst X dX5_clusterPrice_67 ?_
          refine aw_goto X (tgt := 72) dX5_clusterPrice_68 (by decide) ?_
          refine aw_iadd X dX5_clusterPrice_72 ?_
          refine aw_istore X [(5, z_i (z_w (v5 + 1))), (4, z_i (z_w (v4 + (σ 751 v6.toNat)))), (3, z_i (max v3 (σ 751 v6.toNat))), (0, .ref (ad 745)), (1, .ref (ad a1)), (2, z_i v2), (6, z_i v6)] dX5_clusterPrice_73 (by decide) rfl ?_
          refine aw_iinc X 6 [(6, z_i (z_w (v6 + 1))), (5, z_i (z_w (v5 + 1))), (4, z_i (z_w (v4 + (σ 751 v6.toNat)))), (3, z_i (max v3 (σ 751 v6.toNat))), (0, .ref (ad 745)), (1, .ref (ad a1)), (2, z_i v2)] dX5_clusterPrice_75 rfl (by decide) rfl ?_
          refine aw_goto X (tgt := 11) dX5_clusterPrice_78 (by decide) ?_
          refine aw_sub [4, 5, 6, 3, 2, 1, 0] rfl ?_
          exact ih a1 h_a1 v2 c_v2 (max v3 (σ 751 v6.toNat)) (z_max_in c_v3 c25) (z_w (v4 + (σ 751 v6.toNat))) (z_w_in _) (z_w (v5 + 1)) (z_w_in _) (z_w (v6 + 1)) (z_w_in _) hf
end S_X5_clusterPrice
set_option maxHeartbeats 4000000 in
set_option maxRecDepth 100000 in
theorem C_X5_clusterPrice (l : Launch) (D : va_G) (cA : Nat → ClassId) (sa ad : Nat → Nat) (bs : Nat) (a1 : Nat) (h_a1 : a1 ∈ ax_iX1) (v2 : Int) (c_v2 : Z_I v2) (σ : Nat → Nat → Int) (q : Int) (hf : f_X5_clusterPrice a1 v2 σ = some q) : AM l D cA sa ad bs 788 SHp yX5_clusterPrice cX5_clusterPrice 8 (some .int) 1 [.ref (ad 745), .ref (ad a1), z_i v2] σ (some (z_i q)) (Z_I q) σ := by
  refine am_of (by decide +kernel) (Nat.le_of_ble_eq_true rfl) (fun p e s m args below meth c X hr => ?_)
  refine aw_lv (lv' := [(0, .ref (ad 745)), (1, .ref (ad a1)), (2, z_i v2)]) rfl ?_
  unfold f_X5_clusterPrice at hf
  refine aw_iconst X dX5_clusterPrice_0 ?_
  refine aw_istore_n X [(3, z_i 0), (0, .ref (ad 745)), (1, .ref (ad a1)), (2, z_i v2)] dX5_clusterPrice_1 rfl (by decide) rfl ?_
  refine aw_iconst X dX5_clusterPrice_2 ?_
  refine aw_istore X [(4, z_i 0), (3, z_i 0), (0, .ref (ad 745)), (1, .ref (ad a1)), (2, z_i v2)] dX5_clusterPrice_3 (by decide) rfl ?_
  refine aw_iconst X dX5_clusterPrice_5 ?_
  refine aw_istore X [(5, z_i 0), (4, z_i 0), (3, z_i 0), (0, .ref (ad 745)), (1, .ref (ad a1)), (2, z_i v2)] dX5_clusterPrice_6 (by decide) rfl ?_
  refine aw_iconst X dX5_clusterPrice_8 ?_
  refine aw_istore X [(6, z_i 0), (5, z_i 0), (4, z_i 0), (3, z_i 0), (0, .ref (ad 745)), (1, .ref (ad a1)), (2, z_i v2)] dX5_clusterPrice_9 (by decide) rfl ?_
  refine aw_sub [4, 5, 6, 3, 2, 1, 0] rfl ?_
  exact A_X5_clusterPrice_11 X hr σ 100000 a1 h_a1 v2 c_v2 0 (z_lit (x := 0) (by decide)) 0 (z_lit (x := 0) (by decide)) 0 (z_lit (x := 0) (by decide)) 0 (z_lit (x := 0) (by decide)) hf
