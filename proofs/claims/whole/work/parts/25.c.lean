-- SpeedDesk$Clockwork.goTowards(LSpeedDesk$Chip;LSpeedDesk$State;II)V
section S_X2_goTowards
variable {p : Program} {l : Launch} {e : Env} {s : State} {m : MethodId} {args : Array Value} {below : List Frame} {meth : Method} {c : Code} {D : va_G} {cA : Nat → ClassId} {sa ad : Nat → Nat} {bs : Nat} {q : (Nat → Nat → Int)}
set_option maxHeartbeats 4000000 in
set_option maxRecDepth 100000 in
theorem A_X2_goTowards_115 (X : AX p s m args meth c D cA sa bs cX2_goTowards 6 RX2) (hr : meth.sig.returnType = none) (a2 : Nat) (h_a2 : a2 ∈ ax_iX7) (v3 : Int) (c_v3 : Z_I v3) (v5 : Int) (c_v5 : Z_I v5) (σ : Nat → Nat → Int) (hf : f_X2_goTowards_115 a2 v3 v5 σ = some q) : AW p l e (ax_rm 2 0 0) s m args below meth c D cA ad bs 788 SHp 0 0 (ax_MQ below args s D cA ad bs 788 SHp 0 0 none True q) 6 115 [(2, .ref (ad a2)), (3, z_i v3), (5, z_i v5)] [] σ := by
  unfold f_X2_goTowards_115 at hf
  refine aw_aload_n X 0 dX2_goTowards_115 rfl rfl ?_
  refine aw_getR X (sX7_0 a2 h_a2) fX2_104 rfl dX2_goTowards_116 ?_
  refine aw_iload_n X 1 dX2_goTowards_119 rfl rfl ?_
  refine aw_iload X 2 dX2_goTowards_120 rfl ?_
  refine aw_iconst X dX2_goTowards_122 ?_
  refine aw_max X c_v5 (z_lit (x := 0) (by decide)) cX2_76 ⟨(Nat.le_of_ble_eq_true rfl), (Nat.le_of_ble_eq_true rfl), (Nat.le_of_ble_eq_true rfl), (Nat.le_of_ble_eq_true rfl)⟩ dX2_goTowards_123 ?_
  obtain ⟨g23, hf⟩ := z_gd hf
  refine aw_iast X (j := v3.toNat) (sX7_5 a2 h_a2) c_v3 g23.1 g23.2 rfl (z_max_in c_v5 (z_lit (x := 0) (by decide))) dX2_goTowards_126 ?_
  refine aw_aload_n X 0 dX2_goTowards_127 rfl rfl ?_
  refine aw_getR X (sX7_0 a2 h_a2) fX2_98 rfl dX2_goTowards_128 ?_
  refine aw_iload_n X 1 dX2_goTowards_131 rfl rfl ?_
  refine aw_aload_n X 0 dX2_goTowards_132 rfl rfl ?_
  refine aw_getR X (sX7_0 a2 h_a2) fX2_98 rfl dX2_goTowards_133 ?_
  refine aw_iload_n X 1 dX2_goTowards_136 rfl rfl ?_
  obtain ⟨g24, hf⟩ := z_gd hf
  refine aw_iald X (j := v3.toNat) (sX7_7 a2 h_a2) c_v3 g24.1 g24.2 rfl dX2_goTowards_137 (fun c25 => ?_)
  refine aw_iconst X dX2_goTowards_138 ?_
  refine aw_isub X dX2_goTowards_139 ?_
  refine aw_iconst X dX2_goTowards_140 ?_
  refine aw_max X (z_w_in _) (z_lit (x := 0) (by decide)) cX2_76 ⟨(Nat.le_of_ble_eq_true rfl), (Nat.le_of_ble_eq_true rfl), (Nat.le_of_ble_eq_true rfl), (Nat.le_of_ble_eq_true rfl)⟩ dX2_goTowards_141 ?_
  obtain ⟨g26, hf⟩ := z_gd hf
  refine aw_iast X (j := v3.toNat) (sX7_7 a2 h_a2) c_v3 g26.1 g26.2 rfl (z_max_in (z_w_in _) (z_lit (x := 0) (by decide))) dX2_goTowards_144 ?_
  obtain rfl := Option.some.inj hf
  exact aw_vret X trivial hr rfl dX2_goTowards_145
set_option maxHeartbeats 4000000 in
set_option maxRecDepth 100000 in
theorem A_X2_goTowards_74 (X : AX p s m args meth c D cA sa bs cX2_goTowards 6 RX2) (hr : meth.sig.returnType = none) (a1 : Nat) (h_a1 : a1 ∈ ax_iX1) (a2 : Nat) (h_a2 : a2 ∈ ax_iX7) (v3 : Int) (c_v3 : Z_I v3) (v5 : Int) (c_v5 : Z_I v5) (σ : Nat → Nat → Int) (hf : f_X2_goTowards_74 a1 a2 v3 v5 σ = some q) : AW p l e (ax_rm 2 0 0) s m args below meth c D cA ad bs 788 SHp 0 0 (ax_MQ below args s D cA ad bs 788 SHp 0 0 none True q) 6 74 [(1, .ref (ad a1)), (2, .ref (ad a2)), (3, z_i v3), (5, z_i v5)] [] σ := by
  unfold f_X2_goTowards_74 at hf
  refine aw_iload X 3 dX2_goTowards_74 rfl ?_
  refine aw_aload_n X 1 dX2_goTowards_76 rfl rfl ?_
  refine aw_iload_n X 2 dX2_goTowards_77 rfl rfl ?_
  obtain ⟨q14, e15, hf⟩ := z_bd hf
  refine aw_callV X [z_i v3] [z_i v5] [z_i q14, z_i v5] cX2_154 (sX7_0 a2 h_a2) ciX7 (C_X7_lowOf l D cA sa ad bs a2 h_a2 v3 c_v3 σ q14 e15) rfl ⟨(Nat.le_of_ble_eq_true rfl), (Nat.le_of_ble_eq_true rfl), (Nat.le_of_ble_eq_true rfl), (Nat.le_of_ble_eq_true rfl)⟩ rfl (Nat.le_of_ble_eq_true rfl) rfl dX2_goTowards_78 (fun p16 => ?_)
  refine aw_max X c_v5 p16 cX2_76 ⟨(Nat.le_of_ble_eq_true rfl), (Nat.le_of_ble_eq_true rfl), (Nat.le_of_ble_eq_true rfl), (Nat.le_of_ble_eq_true rfl)⟩ dX2_goTowards_81 ?_
  refine aw_istore X [(5, z_i (max v5 q14)), (1, .ref (ad a1)), (2, .ref (ad a2)), (3, z_i v3)] dX2_goTowards_84 (by decide) rfl ?_
  refine aw_iload X 0 dX2_goTowards_86 rfl ?_
  refine aw_aload_n X 2 dX2_goTowards_88 rfl rfl ?_
  refine aw_aload_n X 1 dX2_goTowards_89 rfl rfl ?_
  refine aw_iload_n X 3 dX2_goTowards_90 rfl rfl ?_
  obtain ⟨q17, e18, hf⟩ := z_bd hf
  refine aw_callV X [.ref (ad a1), z_i v3] [z_i (max v5 q14)] [z_i q17, z_i (max v5 q14)] cX2_158 (sX7_0 a2 h_a2) ciX7 (C_X7_highOf l D cA sa ad bs a2 h_a2 a1 h_a1 v3 c_v3 σ q17 e18) rfl ⟨(Nat.le_of_ble_eq_true rfl), (Nat.le_of_ble_eq_true rfl), (Nat.le_of_ble_eq_true rfl), (Nat.le_of_ble_eq_true rfl)⟩ rfl (Nat.le_of_ble_eq_true rfl) rfl dX2_goTowards_91 (fun p19 => ?_)
  refine aw_min X (z_max_in c_v5 p16) p19 cX2_162 ⟨(Nat.le_of_ble_eq_true rfl), (Nat.le_of_ble_eq_true rfl), (Nat.le_of_ble_eq_true rfl), (Nat.le_of_ble_eq_true rfl)⟩ dX2_goTowards_94 ?_
  refine aw_istore X [(5, z_i (min (max v5 q14) q17)), (1, .ref (ad a1)), (2, .ref (ad a2)), (3, z_i v3)] dX2_goTowards_97 (by decide) rfl ?_
  refine aw_aload_n X 2 dX2_goTowards_99 rfl rfl ?_
  refine aw_getI X (sX7_0 a2 h_a2) fX2_51 rfl dX2_goTowards_100 (fun c20 => ?_)
  refine aw_aload_n X 1 dX2_goTowards_103 rfl rfl ?_
  refine aw_getR X (sX1_0 a1 h_a1) fX2_54 rfl dX2_goTowards_104 ?_
  refine aw_iconst X dX2_goTowards_107 ?_
  refine aw_iald X (j := 4) (sX1_18 a1 h_a1) (z_lit (x := 4) (by decide)) (by decide) (by decide) rfl dX2_goTowards_108 (fun c21 => ?_)
  refine aw_icmp_le X (tgt := 115) c20 c21 dX2_goTowards_109 (by decide) (fun h22 => ?_) (fun h22 => ?_)
  · simp only [if_pos h22] at hf
    refine aw_sub [2, 3, 0] rfl ?_
    exact A_X2_goTowards_115 X hr a2 h_a2 v3 c_v3 (min (max v5 q14) q17) (z_min_in (z_max_in c_v5 p16) p19) σ hf
  · simp only [if_neg h22] at hf
    refine aw_iinc X 0 [(5, z_i (z_w (min (max v5 q14) q17 + (-1)))), (1, .ref (ad a1)), (2, .ref (ad a2)), (3, z_i v3)] dX2_goTowards_112 rfl (by decide) rfl ?_
    refine aw_sub [2, 3, 0] rfl ?_
    exact A_X2_goTowards_115 X hr a2 h_a2 v3 c_v3 (z_w (min (max v5 q14) q17 + (-1))) (z_w_in _) σ hf
set_option maxHeartbeats 4000000 in
set_option maxRecDepth 100000 in
theorem A_X2_goTowards_64 (X : AX p s m args meth c D cA sa bs cX2_goTowards 6 RX2) (hr : meth.sig.returnType = none) (a1 : Nat) (h_a1 : a1 ∈ ax_iX1) (a2 : Nat) (h_a2 : a2 ∈ ax_iX7) (v3 : Int) (c_v3 : Z_I v3) (v5 : Int) (c_v5 : Z_I v5) (σ : Nat → Nat → Int) (hf : f_X2_goTowards_64 a1 a2 v3 v5 σ = some q) : AW p l e (ax_rm 2 0 0) s m args below meth c D cA ad bs 788 SHp 0 0 (ax_MQ below args s D cA ad bs 788 SHp 0 0 none True q) 6 64 [(1, .ref (ad a1)), (2, .ref (ad a2)), (3, z_i v3), (5, z_i v5)] [] σ := by
  unfold f_X2_goTowards_64 at hf
  refine aw_aload_n X 1 dX2_goTowards_64 rfl rfl ?_
  refine aw_getR X (sX7_0 a2 h_a2) fX2_151 rfl dX2_goTowards_65 ?_
  refine aw_iload_n X 2 dX2_goTowards_68 rfl rfl ?_
  refine aw_dup2 X dX2_goTowards_69 rfl rfl ?_
  obtain ⟨g11, hf⟩ := z_gd hf
  refine aw_iald X (j := v3.toNat) (sX7_6 a2 h_a2) c_v3 g11.1 g11.2 rfl dX2_goTowards_70 (fun c12 => ?_)
  refine aw_iconst X dX2_goTowards_71 ?_
  refine aw_iadd X dX2_goTowards_72 ?_
  obtain ⟨g13, hf⟩ := z_gd hf
  refine aw_iast X (j := v3.toNat) (sX7_6 a2 h_a2) c_v3 g13.1 g13.2 rfl (z_w_in _) dX2_goTowards_73 ?_
  exact A_X2_goTowards_74 X hr a1 h_a1 a2 h_a2 v3 c_v3 v5 c_v5 (u2 σ (a2 + 6) v3.toNat (z_w ((σ (a2 + 6) v3.toNat) + 1))) hf
end S_X2_goTowards
set_option maxHeartbeats 4000000 in
set_option maxRecDepth 100000 in
theorem C_X2_goTowards (l : Launch) (D : va_G) (cA : Nat → ClassId) (sa ad : Nat → Nat) (bs : Nat) (a1 : Nat) (h_a1 : a1 ∈ ax_iX1) (a2 : Nat) (h_a2 : a2 ∈ ax_iX7) (v3 : Int) (c_v3 : Z_I v3) (v4 : Int) (c_v4 : Z_I v4) (σ : Nat → Nat → Int) (q : (Nat → Nat → Int)) (hf : f_X2_goTowards a1 a2 v3 v4 σ = some q) : AM l D cA sa ad bs 788 SHp yX2_goTowards cX2_goTowards 6 none 2 [.ref (ad 743), .ref (ad a1), .ref (ad a2), z_i v3, z_i v4] σ none True q := by
  refine am_of (by decide +kernel) (Nat.le_of_ble_eq_true rfl) (fun p e s m args below meth c X hr => ?_)
  refine aw_lv (lv' := [(0, .ref (ad 743)), (1, .ref (ad a1)), (2, .ref (ad a2)), (3, z_i v3), (4, z_i v4)]) rfl ?_
  unfold f_X2_goTowards at hf
  refine aw_aload_n X 2 dX2_goTowards_0 rfl rfl ?_
  refine aw_getR X (sX7_0 a2 h_a2) fX2_104 rfl dX2_goTowards_1 ?_
  refine aw_iload_n X 3 dX2_goTowards_4 rfl rfl ?_
  obtain ⟨g1, hf⟩ := z_gd hf
  refine aw_iald X (j := v3.toNat) (sX7_5 a2 h_a2) c_v3 g1.1 g1.2 rfl dX2_goTowards_5 (fun c2 => ?_)
  refine aw_istore X [(5, z_i (σ (a2 + 5) v3.toNat)), (0, .ref (ad 743)), (1, .ref (ad a1)), (2, .ref (ad a2)), (3, z_i v3), (4, z_i v4)] dX2_goTowards_6 (by decide) rfl ?_
  refine aw_iload X 5 dX2_goTowards_8 rfl ?_
  refine aw_iload X 0 dX2_goTowards_10 rfl ?_
  refine aw_icmp_le X (tgt := 29) c_v4 c2 dX2_goTowards_12 (by decide) (fun h3 => ?_) (fun h3 => ?_)
  · rw [if_pos h3] at hf
    refine aw_iload X 5 dX2_goTowards_29 rfl ?_
    refine aw_iload X 0 dX2_goTowards_31 rfl ?_
    refine aw_icmp_ge X (tgt := 64) c_v4 c2 dX2_goTowards_33 (by decide) (fun h4 => ?_) (fun h4 => ?_)
    · rw [if_pos h4] at hf
      refine aw_sub [2, 3, 4, 0] rfl ?_
      exact A_X2_goTowards_64 X hr a1 h_a1 a2 h_a2 v3 c_v3 (σ (a2 + 5) v3.toNat) c2 σ hf
    · rw [if_neg h4] at hf
      refine aw_aload_n X 3 dX2_goTowards_36 rfl rfl ?_
      refine aw_getR X (sX7_0 a2 h_a2) fX2_151 rfl dX2_goTowards_37 ?_
      refine aw_iload_n X 4 dX2_goTowards_40 rfl rfl ?_
      obtain ⟨g5, hf⟩ := z_gd hf
      refine aw_iald X (j := v3.toNat) (sX7_6 a2 h_a2) c_v3 g5.1 g5.2 rfl dX2_goTowards_41 (fun c6 => ?_)
      refine aw_aload_n X 2 dX2_goTowards_42 rfl rfl ?_
      refine aw_getR X (sX1_0 a1 h_a1) fX2_54 rfl dX2_goTowards_43 ?_
      refine aw_iconst X dX2_goTowards_46 ?_
      refine aw_iald X (j := 1) (sX1_18 a1 h_a1) (z_lit (x := 1) (by decide)) (by decide) (by decide) rfl dX2_goTowards_47 (fun c7 => ?_)
      refine aw_icmp_lt X (tgt := 64) c6 c7 dX2_goTowards_48 (by decide) (fun h8 => ?_) (fun h8 => ?_)
      · rw [if_pos h8] at hf
        refine aw_sub [2, 3, 4, 0] rfl ?_
        exact A_X2_goTowards_64 X hr a1 h_a1 a2 h_a2 v3 c_v3 (σ (a2 + 5) v3.toNat) c2 σ hf
      · rw [if_neg h8] at hf
        refine aw_iinc X 0 [(5, z_i (z_w (σ (a2 + 5) v3.toNat + (-1)))), (0, .ref (ad 743)), (1, .ref (ad a1)), (2, .ref (ad a2)), (3, z_i v3), (4, z_i v4)] dX2_goTowards_51 rfl (by decide) rfl ?_
        refine aw_aload_n X 3 dX2_goTowards_54 rfl rfl ?_
        refine aw_getR X (sX7_0 a2 h_a2) fX2_151 rfl dX2_goTowards_55 ?_
        refine aw_iload_n X 4 dX2_goTowards_58 rfl rfl ?_
        refine aw_iconst X dX2_goTowards_59 ?_
        obtain ⟨g9, hf⟩ := z_gd hf
        refine aw_iast X (j := v3.toNat) (sX7_6 a2 h_a2) c_v3 g9.1 g9.2 rfl (z_lit (x := 0) (by decide)) dX2_goTowards_60 ?_
        refine aw_goto X (tgt := 74) dX2_goTowards_61 (by decide) ?_
        refine aw_sub [2, 3, 4, 0] rfl ?_
        exact A_X2_goTowards_74 X hr a1 h_a1 a2 h_a2 v3 c_v3 (z_w (σ (a2 + 5) v3.toNat + (-1))) (z_w_in _) (u2 σ (a2 + 6) v3.toNat 0) hf
  · rw [if_neg h3] at hf
    refine aw_iload X 5 dX2_goTowards_15 rfl ?_
    refine aw_istore X [(5, z_i v4), (0, .ref (ad 743)), (1, .ref (ad a1)), (2, .ref (ad a2)), (3, z_i v3), (4, z_i v4)] dX2_goTowards_17 (by decide) rfl ?_
    refine aw_aload_n X 3 dX2_goTowards_19 rfl rfl ?_
    refine aw_getR X (sX7_0 a2 h_a2) fX2_151 rfl dX2_goTowards_20 ?_
    refine aw_iload_n X 4 dX2_goTowards_23 rfl rfl ?_
    refine aw_iconst X dX2_goTowards_24 ?_
    obtain ⟨g10, hf⟩ := z_gd hf
    refine aw_iast X (j := v3.toNat) (sX7_6 a2 h_a2) c_v3 g10.1 g10.2 rfl (z_lit (x := 0) (by decide)) dX2_goTowards_25 ?_
    refine aw_goto X (tgt := 74) dX2_goTowards_26 (by decide) ?_
    refine aw_sub [2, 3, 4, 0] rfl ?_
    exact A_X2_goTowards_74 X hr a1 h_a1 a2 h_a2 v3 c_v3 v4 c_v4 (u2 σ (a2 + 6) v3.toNat 0) hf
-- SpeedDesk$Clockwork.speedOf(LSpeedDesk$Chip;LSpeedDesk$State;I)I
section S_X2_speedOf
variable {p : Program} {l : Launch} {e : Env} {s : State} {m : MethodId} {args : Array Value} {below : List Frame} {meth : Method} {c : Code} {D : va_G} {cA : Nat → ClassId} {sa ad : Nat → Nat} {bs : Nat} {q : Int}
set_option maxHeartbeats 4000000 in
set_option maxRecDepth 100000 in
theorem A_X2_speedOf_18 (X : AX p s m args meth c D cA sa bs cX2_speedOf 5 RX2) (hr : meth.sig.returnType = (some .int)) (σ : Nat → Nat → Int) (a1 : Nat) (h_a1 : a1 ∈ ax_iX1) (v3 : Int) (c_v3 : Z_I v3) (t0 : Int) (c_t0 : Z_I t0) (hf : f_X2_speedOf_18 a1 v3 t0 σ = some q) : AW p l e (ax_rm 1 0 0) s m args below meth c D cA ad bs 788 SHp 0 0 (ax_MQ below args s D cA ad bs 788 SHp 0 0 (some (z_i q)) (Z_I q) σ) 5 18 [(1, .ref (ad a1)), (3, z_i v3)] [z_i t0] σ := by
  unfold f_X2_speedOf_18 at hf
  refine aw_istore X [(4, z_i t0), (1, .ref (ad a1)), (3, z_i v3)] dX2_speedOf_18 (by decide) rfl ?_
  refine aw_aload_n X 1 dX2_speedOf_20 rfl rfl ?_
  refine aw_iload_n X 2 dX2_speedOf_21 rfl rfl ?_
  refine aw_iload X 0 dX2_speedOf_22 rfl ?_
  obtain ⟨q7, e8, hf⟩ := z_bd hf
  refine aw_callV X [z_i v3, z_i t0] [] [z_i q7] cX2_107 (sX1_0 a1 h_a1) ciX1 (C_X1_hasPoint l D cA sa ad bs a1 h_a1 v3 c_v3 t0 c_t0 σ q7 e8) rfl ⟨(Nat.le_of_ble_eq_true rfl), (Nat.le_of_ble_eq_true rfl), (Nat.le_of_ble_eq_true rfl), (Nat.le_of_ble_eq_true rfl)⟩ rfl (Nat.le_of_ble_eq_true rfl) rfl dX2_speedOf_24 (fun p9 => ?_)
  refine aw_if_eq X (tgt := 42) (z_zI p9) dX2_speedOf_27 (by decide) (fun h10 => ?_) (fun h10 => ?_)
  · rw [if_pos h10] at hf
    refine aw_iconst X dX2_speedOf_42 ?_
    obtain rfl := Option.some.inj hf
    exact aw_iret X (z_lit (x := 0) (by decide)) hr rfl dX2_speedOf_43
  · rw [if_neg h10] at hf
    refine aw_aload_n X 1 dX2_speedOf_30 rfl rfl ?_
    refine aw_getR X (sX1_0 a1 h_a1) fX2_111 rfl dX2_speedOf_31 ?_
    refine aw_iload_n X 2 dX2_speedOf_34 rfl rfl ?_
    obtain ⟨g11, hf⟩ := z_gd hf
    refine aw_aald X (kd := 3) (sX1_6 a1 h_a1) (by decide) c_v3 g11.1 g11.2 (tg_pts7 a1 _ (by omega)) dX2_speedOf_35 ?_
    refine aw_iload X 0 dX2_speedOf_36 rfl ?_
    obtain ⟨g12, hf⟩ := z_gd hf
    refine aw_iald X (j := t0.toNat) (sX1_pt7 a1 h_a1 v3.toNat (by omega)) c_t0 g12.1 g12.2 rfl dX2_speedOf_38 (fun c13 => ?_)
    refine aw_goto X (tgt := 43) dX2_speedOf_39 (by decide) ?_
    obtain rfl := Option.some.inj hf
    exact aw_iret X c13 hr rfl dX2_speedOf_43
end S_X2_speedOf
set_option maxHeartbeats 4000000 in
set_option maxRecDepth 100000 in
theorem C_X2_speedOf (l : Launch) (D : va_G) (cA : Nat → ClassId) (sa ad : Nat → Nat) (bs : Nat) (a1 : Nat) (h_a1 : a1 ∈ ax_iX1) (a2 : Nat) (h_a2 : a2 ∈ ax_iX7) (v3 : Int) (c_v3 : Z_I v3) (σ : Nat → Nat → Int) (q : Int) (hf : f_X2_speedOf a1 a2 v3 σ = some q) : AM l D cA sa ad bs 788 SHp yX2_speedOf cX2_speedOf 5 (some .int) 1 [.ref (ad 743), .ref (ad a1), .ref (ad a2), z_i v3] σ (some (z_i q)) (Z_I q) σ := by
  refine am_of (by decide +kernel) (Nat.le_of_ble_eq_true rfl) (fun p e s m args below meth c X hr => ?_)
  refine aw_lv (lv' := [(0, .ref (ad 743)), (1, .ref (ad a1)), (2, .ref (ad a2)), (3, z_i v3)]) rfl ?_
  unfold f_X2_speedOf at hf
  refine aw_aload_n X 1 dX2_speedOf_0 rfl rfl ?_
  refine aw_iload_n X 3 dX2_speedOf_1 rfl rfl ?_
  obtain ⟨q1, e2, hf⟩ := z_bd hf
  refine aw_callV X [z_i v3] [] [z_i q1] cX2_88 (sX1_0 a1 h_a1) ciX1 (C_X1_hasCluster l D cA sa ad bs a1 h_a1 v3 c_v3 σ q1 e2) rfl ⟨(Nat.le_of_ble_eq_true rfl), (Nat.le_of_ble_eq_true rfl), (Nat.le_of_ble_eq_true rfl), (Nat.le_of_ble_eq_true rfl)⟩ rfl (Nat.le_of_ble_eq_true rfl) rfl dX2_speedOf_2 (fun p3 => ?_)
  refine aw_if_eq X (tgt := 17) (z_zI p3) dX2_speedOf_5 (by decide) (fun h4 => ?_) (fun h4 => ?_)
  · rw [if_pos h4] at hf
    refine aw_iconst X dX2_speedOf_17 ?_
    refine aw_sub [1, 3] rfl ?_
    exact A_X2_speedOf_18 X hr σ a1 h_a1 v3 c_v3 (-1) (z_lit (x := (-1)) (by decide)) hf
  · rw [if_neg h4] at hf
    refine aw_aload_n X 2 dX2_speedOf_8 rfl rfl ?_
    refine aw_getR X (sX7_0 a2 h_a2) fX2_104 rfl dX2_speedOf_9 ?_
    refine aw_iload_n X 3 dX2_speedOf_12 rfl rfl ?_
    obtain ⟨g5, hf⟩ := z_gd hf
    refine aw_iald X (j := v3.toNat) (sX7_5 a2 h_a2) c_v3 g5.1 g5.2 rfl dX2_speedOf_13 (fun c6 => ?_)
    refine aw_goto X (tgt := 18) dX2_speedOf_14 (by decide) ?_
    refine aw_sub [1, 3] rfl ?_
    exact A_X2_speedOf_18 X hr σ a1 h_a1 v3 c_v3 (σ (a2 + 5) v3.toNat) c6 hf
-- SpeedDesk$Clockwork.mostUrgent(LSpeedDesk$Chip;LSpeedDesk$State;I)I
section S_X2_mostUrgent
variable {p : Program} {l : Launch} {e : Env} {s : State} {m : MethodId} {args : Array Value} {below : List Frame} {meth : Method} {c : Code} {D : va_G} {cA : Nat → ClassId} {sa ad : Nat → Nat} {bs : Nat} {q : Int}
set_option maxHeartbeats 4000000 in
set_option maxRecDepth 100000 in
theorem A_X2_mostUrgent_6 (X : AX p s m args meth c D cA sa bs cX2_mostUrgent 6 RX2) (hr : meth.sig.returnType = (some .int)) (σ : Nat → Nat → Int) : ∀ (k : Nat) (a1 : Nat) (h_a1 : a1 ∈ ax_iX1) (a2 : Nat) (h_a2 : a2 ∈ ax_iX7) (v3 : Int) (c_v3 : Z_I v3) (v4 : Int) (c_v4 : Z_I v4) (v5 : Int) (c_v5 : Z_I v5), f_X2_mostUrgent_6 k a1 a2 v3 v4 v5 σ = some q → AW p l e (ax_rm 1 0 0) s m args below meth c D cA ad bs 788 SHp 0 0 (ax_MQ below args s D cA ad bs 788 SHp 0 0 (some (z_i q)) (Z_I q) σ) 6 6 [(0, .ref (ad 743)), (1, .ref (ad a1)), (2, .ref (ad a2)), (3, z_i v3), (4, z_i v4), (5, z_i v5)] [] σ := by
  intro k
  induction k with
  | zero =>
    intro a1 h_a1 a2 h_a2 v3 c_v3 v4 c_v4 v5 c_v5 hf
    unfold f_X2_mostUrgent_6 at hf
    cases hf
  | succ k ih =>
    intro a1 h_a1 a2 h_a2 v3 c_v3 v4 c_v4 v5 c_v5 hf
    unfold f_X2_mostUrgent_6 at hf
    refine aw_iload X 5 dX2_mostUrgent_6 rfl ?_
    refine aw_aload_n X 1 dX2_mostUrgent_8 rfl rfl ?_
    refine aw_getI X (sX1_0 a1 h_a1) fX2_64 rfl dX2_mostUrgent_9 (fun c1 => ?_)
    refine aw_icmp_ge X (tgt := 74) c_v5 c1 dX2_mostUrgent_12 (by decide) (fun h2 => ?_) (fun h2 => ?_)
    · rw [if_pos h2] at hf
      refine aw_iload X 4 dX2_mostUrgent_74 rfl ?_
      obtain rfl := Option.some.inj hf
      exact aw_iret X c_v4 hr rfl dX2_mostUrgent_76
    · rw [if_neg h2] at hf
      refine aw_aload_n X 2 dX2_mostUrgent_15 rfl rfl ?_
      refine aw_getR X (sX7_0 a2 h_a2) fX2_67 rfl dX2_mostUrgent_16 ?_
      refine aw_iload X 5 dX2_mostUrgent_19 rfl ?_
      obtain ⟨g3, hf⟩ := z_gd hf
      refine aw_iald X (j := v5.toNat) (sX7_1 a2 h_a2) c_v5 g3.1 g3.2 rfl dX2_mostUrgent_21 (fun c4 => ?_)
      refine aw_iload_n X 3 dX2_mostUrgent_22 rfl rfl ?_
      refine aw_icmp_ne X (tgt := 68) c4 c_v3 dX2_mostUrgent_23 (by decide) (fun h5 => ?_) (fun h5 => ?_)
      · rw [if_neg h5] at hf
        refine aw_iinc X 5 [(5, z_i (z_w (v5 + 1))), (0, .ref (ad 743)), (1, .ref (ad a1)), (2, .ref (ad a2)), (3, z_i v3), (4, z_i v4)] dX2_mostUrgent_68 rfl (by decide) rfl ?_
        refine aw_goto X (tgt := 6) dX2_mostUrgent_71 (by decide) ?_
        refine aw_sub [1, 2, 3, 4, 5, 0] rfl ?_
        exact ih a1 h_a1 a2 h_a2 v3 c_v3 v4 c_v4 (z_w (v5 + 1)) (z_w_in _) hf
      · rw [if_pos h5] at hf
        refine aw_aload_n X 2 dX2_mostUrgent_26 rfl rfl ?_
        refine aw_getR X (sX7_0 a2 h_a2) fX2_127 rfl dX2_mostUrgent_27 ?_
        refine aw_iload X 5 dX2_mostUrgent_30 rfl ?_
        obtain ⟨g6, hf⟩ := z_gd hf
        refine aw_iald X (j := v5.toNat) (sX7_2 a2 h_a2) c_v5 g6.1 g6.2 rfl dX2_mostUrgent_32 (fun c7 => ?_)
        refine aw_if_ne X (tgt := 39) c7 dX2_mostUrgent_33 (by decide) (fun h8 => ?_) (fun h8 => ?_)
        · rw [if_neg h8] at hf
          refine aw_iload X 4 dX2_mostUrgent_39 rfl ?_
          refine aw_iconst X dX2_mostUrgent_41 ?_
          refine aw_icmp_eq X (tgt := 64) c_v4 (z_lit (x := (-1)) (by decide)) dX2_mostUrgent_42 (by decide) (fun h9 => ?_) (fun h9 => ?_)
          · rw [if_pos h9] at hf
            refine aw_iload X 5 dX2_mostUrgent_64 rfl ?_
            refine aw_istore X [(4, z_i v5), (0, .ref (ad 743)), (1, .ref (ad a1)), (2, .ref (ad a2)), (3, z_i v3), (5, z_i v5)] dX2_mostUrgent_66 (by decide) rfl ?_
            refine aw_iinc X 5 [(5, z_i (z_w (v5 + 1))), (4, z_i v5), (0, .ref (ad 743)), (1, .ref (ad a1)), (2, .ref (ad a2)), (3, z_i v3)] dX2_mostUrgent_68 rfl (by decide) rfl ?_
            refine aw_goto X (tgt := 6) dX2_mostUrgent_71 (by decide) ?_
            refine aw_sub [2, 3, 4, 5, 1, 0] rfl ?_
            exact ih a1 h_a1 a2 h_a2 v3 c_v3 v5 c_v5 (z_w (v5 + 1)) (z_w_in _) hf
          · rw [if_neg h9] at hf
            refine aw_aload_n X 0 dX2_mostUrgent_45 rfl rfl ?_
            refine aw_aload_n X 1 dX2_mostUrgent_46 rfl rfl ?_
            refine aw_aload_n X 2 dX2_mostUrgent_47 rfl rfl ?_
            refine aw_iload X 5 dX2_mostUrgent_48 rfl ?_
            obtain ⟨q10, e11, hf⟩ := z_bd hf
            refine aw_callV X [.ref (ad a1), .ref (ad a2), z_i v5] [] [z_i q10] cX2_118 s_743 ciX2 (C_X2_ticksLeft l D cA sa ad bs a1 h_a1 a2 h_a2 v5 c_v5 σ q10 e11) rfl ⟨(Nat.le_of_ble_eq_true rfl), (Nat.le_of_ble_eq_true rfl), (Nat.le_of_ble_eq_true rfl), (Nat.le_of_ble_eq_true rfl)⟩ rfl (Nat.le_of_ble_eq_true rfl) rfl dX2_mostUrgent_50 (fun p12 => ?_)
            refine aw_aload_n X 0 dX2_mostUrgent_53 rfl rfl ?_
            refine aw_aload_n X 1 dX2_mostUrgent_54 rfl rfl ?_
            refine aw_aload_n X 2 dX2_mostUrgent_55 rfl rfl ?_
            refine aw_iload X 4 dX2_mostUrgent_56 rfl ?_
            obtain ⟨q13, e14, hf⟩ := z_bd hf
            refine aw_callV X [.ref (ad a1), .ref (ad a2), z_i v4] [z_i q10] [z_i q13, z_i q10] cX2_118 s_743 ciX2 (C_X2_ticksLeft l D cA sa ad bs a1 h_a1 a2 h_a2 v4 c_v4 σ q13 e14) rfl ⟨(Nat.le_of_ble_eq_true rfl), (Nat.le_of_ble_eq_true rfl), (Nat.le_of_ble_eq_true rfl), (Nat.le_of_ble_eq_true rfl)⟩ rfl (Nat.le_of_ble_eq_true rfl) rfl dX2_mostUrgent_58 (fun p15 => ?_)
            refine aw_icmp_ge X (tgt := 68) p12 p15 dX2_mostUrgent_61 (by decide) (fun h16 => ?_) (fun h16 => ?_)
            · simp only [if_pos h16] at hf
              refine aw_iinc X 5 [(5, z_i (z_w (v5 + 1))), (0, .ref (ad 743)), (1, .ref (ad a1)), (2, .ref (ad a2)), (3, z_i v3), (4, z_i v4)] dX2_mostUrgent_68 rfl (by decide) rfl ?_
              refine aw_goto X (tgt := 6) dX2_mostUrgent_71 (by decide) ?_
              refine aw_sub [1, 2, 3, 4, 5, 0] rfl ?_
              exact ih a1 h_a1 a2 h_a2 v3 c_v3 v4 c_v4 (z_w (v5 + 1)) (z_w_in _) hf
            · simp only [if_neg h16] at hf
              refine aw_iload X 5 dX2_mostUrgent_64 rfl ?_
              refine aw_istore X [(4, z_i v5), (0, .ref (ad 743)), (1, .ref (ad a1)), (2, .ref (ad a2)), (3, z_i v3), (5, z_i v5)] dX2_mostUrgent_66 (by decide) rfl ?_
              refine aw_iinc X 5 [(5, z_i (z_w (v5 + 1))), (4, z_i v5), (0, .ref (ad 743)), (1, .ref (ad a1)), (2, .ref (ad a2)), (3, z_i v3)] dX2_mostUrgent_68 rfl (by decide) rfl ?_
              refine aw_goto X (tgt := 6) dX2_mostUrgent_71 (by decide) ?_
              refine aw_sub [2, 3, 4, 5, 1, 0] rfl ?_
              exact ih a1 h_a1 a2 h_a2 v3 c_v3 v5 c_v5 (z_w (v5 + 1)) (z_w_in _) hf
        · rw [if_pos h8] at hf
          refine aw_goto X (tgt := 68) dX2_mostUrgent_36 (by decide) ?_
          refine aw_iinc X 5 [(5, z_i (z_w (v5 + 1))), (0, .ref (ad 743)), (1, .ref (ad a1)), (2, .ref (ad a2)), (3, z_i v3), (4, z_i v4)] dX2_mostUrgent_68 rfl (by decide) rfl ?_
          refine aw_goto X (tgt := 6) dX2_mostUrgent_71 (by decide) ?_
          refine aw_sub [1, 2, 3, 4, 5, 0] rfl ?_
          exact ih a1 h_a1 a2 h_a2 v3 c_v3 v4 c_v4 (z_w (v5 + 1)) (z_w_in _) hf
end S_X2_mostUrgent
set_option maxHeartbeats 4000000 in
set_option maxRecDepth 100000 in
theorem C_X2_mostUrgent (l : Launch) (D : va_G) (cA : Nat → ClassId) (sa ad : Nat → Nat) (bs : Nat) (a1 : Nat) (h_a1 : a1 ∈ ax_iX1) (a2 : Nat) (h_a2 : a2 ∈ ax_iX7) (v3 : Int) (c_v3 : Z_I v3) (σ : Nat → Nat → Int) (q : Int) (hf : f_X2_mostUrgent a1 a2 v3 σ = some q) : AM l D cA sa ad bs 788 SHp yX2_mostUrgent cX2_mostUrgent 6 (some .int) 1 [.ref (ad 743), .ref (ad a1), .ref (ad a2), z_i v3] σ (some (z_i q)) (Z_I q) σ := by
  refine am_of (by decide +kernel) (Nat.le_of_ble_eq_true rfl) (fun p e s m args below meth c X hr => ?_)
  refine aw_lv (lv' := [(0, .ref (ad 743)), (1, .ref (ad a1)), (2, .ref (ad a2)), (3, z_i v3)]) rfl ?_
  unfold f_X2_mostUrgent at hf
  refine aw_iconst X dX2_mostUrgent_0 ?_
  refine aw_istore X [(4, z_i (-1)), (0, .ref (ad 743)), (1, .ref (ad a1)), (2, .ref (ad a2)), (3, z_i v3)] dX2_mostUrgent_1 (by decide) rfl ?_
  refine aw_iconst X dX2_mostUrgent_3 ?_
  refine aw_istore X [(5, z_i 0), (4, z_i (-1)), (0, .ref (ad 743)), (1, .ref (ad a1)), (2, .ref (ad a2)), (3, z_i v3)] dX2_mostUrgent_4 (by decide) rfl ?_
  refine aw_sub [2, 3, 4, 5, 1, 0] rfl ?_
  exact A_X2_mostUrgent_6 X hr σ 100000 a1 h_a1 a2 h_a2 v3 c_v3 (-1) (z_lit (x := (-1)) (by decide)) 0 (z_lit (x := 0) (by decide)) hf
-- SpeedDesk$Clockwork.costOf(LSpeedDesk$Chip;LSpeedDesk$State;I)I
section S_X2_costOf
variable {p : Program} {l : Launch} {e : Env} {s : State} {m : MethodId} {args : Array Value} {below : List Frame} {meth : Method} {c : Code} {D : va_G} {cA : Nat → ClassId} {sa ad : Nat → Nat} {bs : Nat} {q : Int}
set_option maxHeartbeats 4000000 in
set_option maxRecDepth 100000 in
theorem A_X2_costOf_18 (X : AX p s m args meth c D cA sa bs cX2_costOf 5 RX2) (hr : meth.sig.returnType = (some .int)) (σ : Nat → Nat → Int) (a1 : Nat) (h_a1 : a1 ∈ ax_iX1) (v3 : Int) (c_v3 : Z_I v3) (t0 : Int) (c_t0 : Z_I t0) (hf : f_X2_costOf_18 a1 v3 t0 σ = some q) : AW p l e (ax_rm 1 0 0) s m args below meth c D cA ad bs 788 SHp 0 0 (ax_MQ below args s D cA ad bs 788 SHp 0 0 (some (z_i q)) (Z_I q) σ) 5 18 [(1, .ref (ad a1)), (3, z_i v3)] [z_i t0] σ := by
  unfold f_X2_costOf_18 at hf
  refine aw_istore X [(4, z_i t0), (1, .ref (ad a1)), (3, z_i v3)] dX2_costOf_18 (by decide) rfl ?_
  refine aw_aload_n X 1 dX2_costOf_20 rfl rfl ?_
  refine aw_iload_n X 2 dX2_costOf_21 rfl rfl ?_
  refine aw_iload X 0 dX2_costOf_22 rfl ?_
  obtain ⟨q7, e8, hf⟩ := z_bd hf
  refine aw_callV X [z_i v3, z_i t0] [] [z_i q7] cX2_107 (sX1_0 a1 h_a1) ciX1 (C_X1_hasPoint l D cA sa ad bs a1 h_a1 v3 c_v3 t0 c_t0 σ q7 e8) rfl ⟨(Nat.le_of_ble_eq_true rfl), (Nat.le_of_ble_eq_true rfl), (Nat.le_of_ble_eq_true rfl), (Nat.le_of_ble_eq_true rfl)⟩ rfl (Nat.le_of_ble_eq_true rfl) rfl dX2_costOf_24 (fun p9 => ?_)
  refine aw_if_eq X (tgt := 42) (z_zI p9) dX2_costOf_27 (by decide) (fun h10 => ?_) (fun h10 => ?_)
  · rw [if_pos h10] at hf
    refine aw_iconst X dX2_costOf_42 ?_
    obtain rfl := Option.some.inj hf
    exact aw_iret X (z_lit (x := 0) (by decide)) hr rfl dX2_costOf_43
  · rw [if_neg h10] at hf
    refine aw_aload_n X 1 dX2_costOf_30 rfl rfl ?_
    refine aw_getR X (sX1_0 a1 h_a1) fX2_181 rfl dX2_costOf_31 ?_
    refine aw_iload_n X 2 dX2_costOf_34 rfl rfl ?_
    obtain ⟨g11, hf⟩ := z_gd hf
    refine aw_aald X (kd := 3) (sX1_10 a1 h_a1) (by decide) c_v3 g11.1 g11.2 (tg_pts11 a1 _ (by omega)) dX2_costOf_35 ?_
    refine aw_iload X 0 dX2_costOf_36 rfl ?_
    obtain ⟨g12, hf⟩ := z_gd hf
    refine aw_iald X (j := t0.toNat) (sX1_pt11 a1 h_a1 v3.toNat (by omega)) c_t0 g12.1 g12.2 rfl dX2_costOf_38 (fun c13 => ?_)
    refine aw_goto X (tgt := 43) dX2_costOf_39 (by decide) ?_
    obtain rfl := Option.some.inj hf
    exact aw_iret X c13 hr rfl dX2_costOf_43
end S_X2_costOf
set_option maxHeartbeats 4000000 in
set_option maxRecDepth 100000 in
theorem C_X2_costOf (l : Launch) (D : va_G) (cA : Nat → ClassId) (sa ad : Nat → Nat) (bs : Nat) (a1 : Nat) (h_a1 : a1 ∈ ax_iX1) (a2 : Nat) (h_a2 : a2 ∈ ax_iX7) (v3 : Int) (c_v3 : Z_I v3) (σ : Nat → Nat → Int) (q : Int) (hf : f_X2_costOf a1 a2 v3 σ = some q) : AM l D cA sa ad bs 788 SHp yX2_costOf cX2_costOf 5 (some .int) 1 [.ref (ad 743), .ref (ad a1), .ref (ad a2), z_i v3] σ (some (z_i q)) (Z_I q) σ := by
  refine am_of (by decide +kernel) (Nat.le_of_ble_eq_true rfl) (fun p e s m args below meth c X hr => ?_)
  refine aw_lv (lv' := [(0, .ref (ad 743)), (1, .ref (ad a1)), (2, .ref (ad a2)), (3, z_i v3)]) rfl ?_
  unfold f_X2_costOf at hf
  refine aw_aload_n X 1 dX2_costOf_0 rfl rfl ?_
  refine aw_iload_n X 3 dX2_costOf_1 rfl rfl ?_
  obtain ⟨q1, e2, hf⟩ := z_bd hf
  refine aw_callV X [z_i v3] [] [z_i q1] cX2_88 (sX1_0 a1 h_a1) ciX1 (C_X1_hasCluster l D cA sa ad bs a1 h_a1 v3 c_v3 σ q1 e2) rfl ⟨(Nat.le_of_ble_eq_true rfl), (Nat.le_of_ble_eq_true rfl), (Nat.le_of_ble_eq_true rfl), (Nat.le_of_ble_eq_true rfl)⟩ rfl (Nat.le_of_ble_eq_true rfl) rfl dX2_costOf_2 (fun p3 => ?_)
  refine aw_if_eq X (tgt := 17) (z_zI p3) dX2_costOf_5 (by decide) (fun h4 => ?_) (fun h4 => ?_)
  · rw [if_pos h4] at hf
    refine aw_iconst X dX2_costOf_17 ?_
    refine aw_sub [1, 3] rfl ?_
    exact A_X2_costOf_18 X hr σ a1 h_a1 v3 c_v3 (-1) (z_lit (x := (-1)) (by decide)) hf
  · rw [if_neg h4] at hf
    refine aw_aload_n X 2 dX2_costOf_8 rfl rfl ?_
    refine aw_getR X (sX7_0 a2 h_a2) fX2_104 rfl dX2_costOf_9 ?_
    refine aw_iload_n X 3 dX2_costOf_12 rfl rfl ?_
    obtain ⟨g5, hf⟩ := z_gd hf
    refine aw_iald X (j := v3.toNat) (sX7_5 a2 h_a2) c_v3 g5.1 g5.2 rfl dX2_costOf_13 (fun c6 => ?_)
    refine aw_goto X (tgt := 18) dX2_costOf_14 (by decide) ?_
    refine aw_sub [1, 3] rfl ?_
    exact A_X2_costOf_18 X hr σ a1 h_a1 v3 c_v3 (σ (a2 + 5) v3.toNat) c6 hf
-- SpeedDesk$Clockwork.rememberIdling(LSpeedDesk$Chip;LSpeedDesk$State;IZ)V
section S_X2_rememberIdling
variable {p : Program} {l : Launch} {e : Env} {s : State} {m : MethodId} {args : Array Value} {below : List Frame} {meth : Method} {c : Code} {D : va_G} {cA : Nat → ClassId} {sa ad : Nat → Nat} {bs : Nat} {q : (Nat → Nat → Int)}
set_option maxHeartbeats 4000000 in
set_option maxRecDepth 100000 in
theorem A_X2_rememberIdling_22 (X : AX p s m args meth c D cA sa bs cX2_rememberIdling 5 RX2) (hr : meth.sig.returnType = none) (a1 : Nat) (h_a1 : a1 ∈ ax_iX1) (a2 : Nat) (h_a2 : a2 ∈ ax_iX7) (v3 : Int) (c_v3 : Z_I v3) (t0 : Int) (c_t0 : Z_I t0) (t1 : Int) (c_t1 : Z_I t1) (b2 : Nat) (h_b2 : b2 < 788 ∧ SHp b2 = .inr (0, 6, [])) (σ : Nat → Nat → Int) (hf : f_X2_rememberIdling_22 a1 a2 v3 t0 t1 b2 σ = some q) : AW p l e (ax_rm 1 0 0) s m args below meth c D cA ad bs 788 SHp 0 0 (ax_MQ below args s D cA ad bs 788 SHp 0 0 none True q) 5 22 [(1, .ref (ad a1)), (2, .ref (ad a2)), (3, z_i v3)] [z_i t0, z_i t1, .ref (ad b2)] σ := by
  unfold f_X2_rememberIdling_22 at hf
  obtain ⟨g4, hf⟩ := z_gd hf
  refine aw_iast X (j := t1.toNat) h_b2 c_t1 g4.1 g4.2 rfl c_t0 dX2_rememberIdling_22 ?_
  refine aw_aload_n X 1 dX2_rememberIdling_23 rfl rfl ?_
  refine aw_getR X (sX7_0 a2 h_a2) fX2_184 rfl dX2_rememberIdling_24 ?_
  refine aw_iload_n X 2 dX2_rememberIdling_27 rfl rfl ?_
  obtain ⟨g5, hf⟩ := z_gd hf
  refine aw_iald X (j := v3.toNat) (sX7_8 a2 h_a2) c_v3 g5.1 g5.2 rfl dX2_rememberIdling_28 (fun c6 => ?_)
  refine aw_aload_n X 0 dX2_rememberIdling_29 rfl rfl ?_
  refine aw_getR X (sX1_0 a1 h_a1) fX2_54 rfl dX2_rememberIdling_30 ?_
  refine aw_iconst X dX2_rememberIdling_33 ?_
  refine aw_iald X (j := 2) (sX1_18 a1 h_a1) (z_lit (x := 2) (by decide)) (by decide) (by decide) rfl dX2_rememberIdling_34 (fun c7 => ?_)
  refine aw_icmp_lt X (tgt := 51) c6 c7 dX2_rememberIdling_35 (by decide) (fun h8 => ?_) (fun h8 => ?_)
  · rw [if_pos h8] at hf
    obtain rfl := Option.some.inj hf
    exact aw_vret X trivial hr rfl dX2_rememberIdling_51
  · rw [if_neg h8] at hf
    refine aw_aload_n X 1 dX2_rememberIdling_38 rfl rfl ?_
    refine aw_aload_n X 1 dX2_rememberIdling_39 rfl rfl ?_
    refine aw_getI X (sX7_0 a2 h_a2) fX2_138 rfl dX2_rememberIdling_40 (fun c9 => ?_)
    refine aw_iload_n X 2 dX2_rememberIdling_43 rfl rfl ?_
    refine aw_iconst X dX2_rememberIdling_44 ?_
    obtain ⟨q10, e11, hf⟩ := z_bd hf
    refine aw_callN X [z_i ((u2 σ b2 t1.toNat t0) a2 6), z_i v3, z_i 1] [.ref (ad a2)] [z_i q10, .ref (ad a2)] cX2_141 (C_X11_withBit l D cA sa ad bs ((u2 σ b2 t1.toNat t0) a2 6) c9 v3 c_v3 1 (z_lit (x := 1) (by decide)) (u2 σ b2 t1.toNat t0) q10 e11) rfl ⟨(Nat.le_of_ble_eq_true rfl), (Nat.le_of_ble_eq_true rfl), (Nat.le_of_ble_eq_true rfl), (Nat.le_of_ble_eq_true rfl)⟩ rfl (Nat.le_of_ble_eq_true rfl) rfl dX2_rememberIdling_45 (fun p12 => ?_)
    refine aw_putI X (sX7_0 a2 h_a2) pX2_138 rfl p12 dX2_rememberIdling_48 ?_
    obtain rfl := Option.some.inj hf
    exact aw_vret X trivial hr rfl dX2_rememberIdling_51
end S_X2_rememberIdling
set_option maxHeartbeats 4000000 in
set_option maxRecDepth 100000 in
theorem C_X2_rememberIdling (l : Launch) (D : va_G) (cA : Nat → ClassId) (sa ad : Nat → Nat) (bs : Nat) (a1 : Nat) (h_a1 : a1 ∈ ax_iX1) (a2 : Nat) (h_a2 : a2 ∈ ax_iX7) (v3 : Int) (c_v3 : Z_I v3) (v4 : Int) (c_v4 : Z_I v4) (σ : Nat → Nat → Int) (q : (Nat → Nat → Int)) (hf : f_X2_rememberIdling a1 a2 v3 v4 σ = some q) : AM l D cA sa ad bs 788 SHp yX2_rememberIdling cX2_rememberIdling 5 none 1 [.ref (ad 743), .ref (ad a1), .ref (ad a2), z_i v3, z_i v4] σ none True q := by
  refine am_of (by decide +kernel) (Nat.le_of_ble_eq_true rfl) (fun p e s m args below meth c X hr => ?_)
  refine aw_lv (lv' := [(0, .ref (ad 743)), (1, .ref (ad a1)), (2, .ref (ad a2)), (3, z_i v3), (4, z_i v4)]) rfl ?_
  unfold f_X2_rememberIdling at hf
  refine aw_aload_n X 2 dX2_rememberIdling_0 rfl rfl ?_
  refine aw_getR X (sX7_0 a2 h_a2) fX2_184 rfl dX2_rememberIdling_1 ?_
  refine aw_iload_n X 3 dX2_rememberIdling_4 rfl rfl ?_
  refine aw_iload X 4 dX2_rememberIdling_5 rfl ?_
  refine aw_if_eq X (tgt := 21) c_v4 dX2_rememberIdling_7 (by decide) (fun h1 => ?_) (fun h1 => ?_)
  · rw [if_pos h1] at hf
    refine aw_iconst X dX2_rememberIdling_21 ?_
    refine aw_sub [1, 2, 3] rfl ?_
    exact A_X2_rememberIdling_22 X hr a1 h_a1 a2 h_a2 v3 c_v3 0 (z_lit (x := 0) (by decide)) v3 c_v3 (a2 + 8) (sX7_8 a2 h_a2) σ hf
  · rw [if_neg h1] at hf
    refine aw_aload_n X 2 dX2_rememberIdling_10 rfl rfl ?_
    refine aw_getR X (sX7_0 a2 h_a2) fX2_184 rfl dX2_rememberIdling_11 ?_
    refine aw_iload_n X 3 dX2_rememberIdling_14 rfl rfl ?_
    obtain ⟨g2, hf⟩ := z_gd hf
    refine aw_iald X (j := v3.toNat) (sX7_8 a2 h_a2) c_v3 g2.1 g2.2 rfl dX2_rememberIdling_15 (fun c3 => ?_)
    refine aw_iconst X dX2_rememberIdling_16 ?_
    refine aw_iadd X dX2_rememberIdling_17 ?_
    refine aw_goto X (tgt := 22) dX2_rememberIdling_18 (by decide) ?_
    refine aw_sub [1, 2, 3] rfl ?_
    exact A_X2_rememberIdling_22 X hr a1 h_a1 a2 h_a2 v3 c_v3 (z_w ((σ (a2 + 8) v3.toNat) + 1)) (z_w_in _) v3 c_v3 (a2 + 8) (sX7_8 a2 h_a2) σ hf
-- SpeedDesk$Clockwork.work(LSpeedDesk$Chip;LSpeedDesk$State;I)I
section S_X2_work
variable {p : Program} {l : Launch} {e : Env} {s : State} {m : MethodId} {args : Array Value} {below : List Frame} {meth : Method} {c : Code} {D : va_G} {cA : Nat → ClassId} {sa ad : Nat → Nat} {bs : Nat} {q : (Int × (Nat → Nat → Int))}
set_option maxHeartbeats 4000000 in
set_option maxRecDepth 100000 in
theorem A_X2_work_169 (X : AX p s m args meth c D cA sa bs cX2_work 10 RX2) (hr : meth.sig.returnType = (some .int)) (v7 : Int) (c_v7 : Z_I v7) (t0 : Int) (c_t0 : Z_I t0) (t1 : Int) (c_t1 : Z_I t1) (b2 : Nat) (h_b2 : b2 ∈ ax_iX7) (b3 : Nat) (h_b3 : b3 ∈ ax_iX1) (σ : Nat → Nat → Int) (hf : f_X2_work_169 v7 t0 t1 b2 b3 σ = some q) : AW p l e (ax_rm 2 0 0) s m args below meth c D cA ad bs 788 SHp 0 0 (ax_MQ below args s D cA ad bs 788 SHp 0 0 (some (z_i q.1)) (Z_I q.1) q.2) 10 169 [(7, z_i v7)] [z_i t0, z_i t1, .ref (ad b2), .ref (ad b3), .ref (ad 743)] σ := by
  unfold f_X2_work_169 at hf
  obtain ⟨q35, e36, hf⟩ := z_bd hf
  refine aw_callV X [.ref (ad b3), .ref (ad b2), z_i t1, z_i t0] [] [] cX2_177 s_743 ciX2 (C_X2_rememberIdling l D cA sa ad bs b3 h_b3 b2 h_b2 t1 c_t1 t0 c_t0 σ q35 e36) rfl ⟨(Nat.le_of_ble_eq_true rfl), (Nat.le_of_ble_eq_true rfl), (Nat.le_of_ble_eq_true rfl), (Nat.le_of_ble_eq_true rfl)⟩ rfl (Nat.le_of_ble_eq_true rfl) rfl dX2_work_169 (fun p37 => ?_)
  refine aw_iload X 0 dX2_work_172 rfl ?_
  obtain rfl := Option.some.inj hf
  exact aw_iret X c_v7 hr rfl dX2_work_174
set_option maxHeartbeats 4000000 in
set_option maxRecDepth 100000 in
theorem A_X2_work_153 (X : AX p s m args meth c D cA sa bs cX2_work 10 RX2) (hr : meth.sig.returnType = (some .int)) (a1 : Nat) (h_a1 : a1 ∈ ax_iX1) (a2 : Nat) (h_a2 : a2 ∈ ax_iX7) (v3 : Int) (c_v3 : Z_I v3) (v5 : Int) (c_v5 : Z_I v5) (v6 : Int) (c_v6 : Z_I v6) (v7 : Int) (c_v7 : Z_I v7) (σ : Nat → Nat → Int) (hf : f_X2_work_153 a1 a2 v3 v5 v6 v7 σ = some q) : AW p l e (ax_rm 2 0 0) s m args below meth c D cA ad bs 788 SHp 0 0 (ax_MQ below args s D cA ad bs 788 SHp 0 0 (some (z_i q.1)) (Z_I q.1) q.2) 10 153 [(0, .ref (ad 743)), (1, .ref (ad a1)), (2, .ref (ad a2)), (3, z_i v3), (5, z_i v5), (6, z_i v6), (7, z_i v7)] [] σ := by
  unfold f_X2_work_153 at hf
  refine aw_aload_n X 0 dX2_work_153 rfl rfl ?_
  refine aw_aload_n X 1 dX2_work_154 rfl rfl ?_
  refine aw_aload_n X 2 dX2_work_155 rfl rfl ?_
  refine aw_iload_n X 3 dX2_work_156 rfl rfl ?_
  refine aw_iload X 5 dX2_work_157 rfl ?_
  refine aw_iload X 4 dX2_work_159 rfl ?_
  refine aw_icmp_ne X (tgt := 168) c_v6 c_v5 dX2_work_161 (by decide) (fun h34 => ?_) (fun h34 => ?_)
  · simp only [if_neg h34] at hf
    refine aw_iconst X dX2_work_168 ?_
    refine aw_sub [6] rfl ?_
    exact A_X2_work_169 X hr v7 c_v7 0 (z_lit (x := 0) (by decide)) v3 c_v3 a2 h_a2 a1 h_a1 σ hf
  · simp only [if_pos h34] at hf
    refine aw_iconst X dX2_work_164 ?_
    refine aw_goto X (tgt := 169) dX2_work_165 (by decide) ?_
    refine aw_sub [6] rfl ?_
    exact A_X2_work_169 X hr v7 c_v7 1 (z_lit (x := 1) (by decide)) v3 c_v3 a2 h_a2 a1 h_a1 σ hf
set_option maxHeartbeats 4000000 in
set_option maxRecDepth 100000 in
theorem A_X2_work_108 (X : AX p s m args meth c D cA sa bs cX2_work 10 RX2) (hr : meth.sig.returnType = (some .int)) (a1 : Nat) (h_a1 : a1 ∈ ax_iX1) (a2 : Nat) (h_a2 : a2 ∈ ax_iX7) (v3 : Int) (c_v3 : Z_I v3) (v4 : Int) (c_v4 : Z_I v4) (v5 : Int) (c_v5 : Z_I v5) (v6 : Int) (c_v6 : Z_I v6) (σ : Nat → Nat → Int) (hf : f_X2_work_108 a1 a2 v3 v4 v5 v6 σ = some q) : AW p l e (ax_rm 2 0 0) s m args below meth c D cA ad bs 788 SHp 0 0 (ax_MQ below args s D cA ad bs 788 SHp 0 0 (some (z_i q.1)) (Z_I q.1) q.2) 10 108 [(0, .ref (ad 743)), (1, .ref (ad a1)), (2, .ref (ad a2)), (3, z_i v3), (4, z_i v4), (5, z_i v5), (6, z_i v6)] [] σ := by
  unfold f_X2_work_108 at hf
  refine aw_iload X 5 dX2_work_108 rfl ?_
  refine aw_iload X 6 dX2_work_110 rfl ?_
  refine aw_isub X dX2_work_112 ?_
  refine aw_aload_n X 0 dX2_work_113 rfl rfl ?_
  refine aw_aload_n X 1 dX2_work_114 rfl rfl ?_
  refine aw_aload_n X 2 dX2_work_115 rfl rfl ?_
  refine aw_iload X 4 dX2_work_116 rfl ?_
  obtain ⟨q21, e22, hf⟩ := z_bd hf
  refine aw_callV X [.ref (ad a1), .ref (ad a2), z_i v4] [z_i (z_w (v5 - v6))] [z_i q21, z_i (z_w (v5 - v6))] cX2_171 s_743 ciX2 (C_X2_costOf l D cA sa ad bs a1 h_a1 a2 h_a2 v4 c_v4 σ q21 e22) rfl ⟨(Nat.le_of_ble_eq_true rfl), (Nat.le_of_ble_eq_true rfl), (Nat.le_of_ble_eq_true rfl), (Nat.le_of_ble_eq_true rfl)⟩ rfl (Nat.le_of_ble_eq_true rfl) rfl dX2_work_118 (fun p23 => ?_)
  refine aw_imul X dX2_work_121 ?_
  refine aw_istore X [(7, z_i (z_w ((z_w (v5 - v6)) * q21))), (0, .ref (ad 743)), (1, .ref (ad a1)), (2, .ref (ad a2)), (3, z_i v3), (4, z_i v4), (5, z_i v5), (6, z_i v6)] dX2_work_122 (by decide) rfl ?_
  refine aw_aload_n X 3 dX2_work_124 rfl rfl ?_
  refine aw_iload_n X 4 dX2_work_125 rfl rfl ?_
  obtain ⟨q24, e25, hf⟩ := z_bd hf
  refine aw_callV X [z_i v3] [] [z_i q24] cX2_135 (sX7_0 a2 h_a2) ciX7 (C_X7_isAsleep l D cA sa ad bs a2 h_a2 v3 c_v3 σ q24 e25) rfl ⟨(Nat.le_of_ble_eq_true rfl), (Nat.le_of_ble_eq_true rfl), (Nat.le_of_ble_eq_true rfl), (Nat.le_of_ble_eq_true rfl)⟩ rfl (Nat.le_of_ble_eq_true rfl) rfl dX2_work_126 (fun p26 => ?_)
  refine aw_if_ne X (tgt := 153) (z_zI p26) dX2_work_129 (by decide) (fun h27 => ?_) (fun h27 => ?_)
  · rw [if_neg h27] at hf
    refine aw_sub [1, 2, 3, 4, 6, 7, 0] rfl ?_
    exact A_X2_work_153 X hr a1 h_a1 a2 h_a2 v3 c_v3 v5 c_v5 v6 c_v6 (z_w ((z_w (v5 - v6)) * q21)) (z_w_in _) σ hf
  · rw [if_pos h27] at hf
    refine aw_aload_n X 2 dX2_work_132 rfl rfl ?_
    refine aw_iload X 5 dX2_work_133 rfl ?_
    obtain ⟨q28, e29, hf⟩ := z_bd hf
    refine aw_callV X [z_i v4] [] [z_i q28] cX2_88 (sX1_0 a1 h_a1) ciX1 (C_X1_hasCluster l D cA sa ad bs a1 h_a1 v4 c_v4 σ q28 e29) rfl ⟨(Nat.le_of_ble_eq_true rfl), (Nat.le_of_ble_eq_true rfl), (Nat.le_of_ble_eq_true rfl), (Nat.le_of_ble_eq_true rfl)⟩ rfl (Nat.le_of_ble_eq_true rfl) rfl dX2_work_135 (fun p30 => ?_)
    refine aw_if_eq X (tgt := 153) (z_zI p30) dX2_work_138 (by decide) (fun h31 => ?_) (fun h31 => ?_)
    · rw [if_pos h31] at hf
      refine aw_sub [1, 2, 3, 4, 6, 7, 0] rfl ?_
      exact A_X2_work_153 X hr a1 h_a1 a2 h_a2 v3 c_v3 v5 c_v5 v6 c_v6 (z_w ((z_w (v5 - v6)) * q21)) (z_w_in _) σ hf
    · rw [if_neg h31] at hf
      refine aw_iload X 0 dX2_work_141 rfl ?_
      refine aw_aload_n X 2 dX2_work_143 rfl rfl ?_
      refine aw_getR X (sX1_0 a1 h_a1) fX2_174 rfl dX2_work_144 ?_
      refine aw_iload X 5 dX2_work_147 rfl ?_
      obtain ⟨g32, hf⟩ := z_gd hf
      refine aw_iald X (j := v4.toNat) (sX1_3 a1 h_a1) c_v4 g32.1 g32.2 rfl dX2_work_149 (fun c33 => ?_)
      refine aw_iadd X dX2_work_150 ?_
      refine aw_istore X [(7, z_i (z_w ((z_w ((z_w (v5 - v6)) * q21)) + (σ (a1 + 3) v4.toNat)))), (0, .ref (ad 743)), (1, .ref (ad a1)), (2, .ref (ad a2)), (3, z_i v3), (4, z_i v4), (5, z_i v5), (6, z_i v6)] dX2_work_151 (by decide) rfl ?_
      refine aw_sub [1, 2, 3, 4, 6, 7, 0] rfl ?_
      exact A_X2_work_153 X hr a1 h_a1 a2 h_a2 v3 c_v3 v5 c_v5 v6 c_v6 (z_w ((z_w ((z_w (v5 - v6)) * q21)) + (σ (a1 + 3) v4.toNat))) (z_w_in _) σ hf
set_option maxHeartbeats 4000000 in
set_option maxRecDepth 100000 in
theorem A_X2_work_25 (X : AX p s m args meth c D cA sa bs cX2_work 10 RX2) (hr : meth.sig.returnType = (some .int)) : ∀ (k : Nat) (a1 : Nat) (h_a1 : a1 ∈ ax_iX1) (a2 : Nat) (h_a2 : a2 ∈ ax_iX7) (v3 : Int) (c_v3 : Z_I v3) (v4 : Int) (c_v4 : Z_I v4) (v5 : Int) (c_v5 : Z_I v5) (v6 : Int) (c_v6 : Z_I v6) (v7 : Int) (c_v7 : Z_I v7) (σ : Nat → Nat → Int), f_X2_work_25 k a1 a2 v3 v4 v5 v6 v7 σ = some q → AW p l e (ax_rm 2 0 0) s m args below meth c D cA ad bs 788 SHp 0 0 (ax_MQ below args s D cA ad bs 788 SHp 0 0 (some (z_i q.1)) (Z_I q.1) q.2) 10 25 [(0, .ref (ad 743)), (1, .ref (ad a1)), (2, .ref (ad a2)), (3, z_i v3), (4, z_i v4), (5, z_i v5), (6, z_i v6), (7, z_i v7)] [] σ := by
  intro k
  induction k with
  | zero =>
    intro a1 h_a1 a2 h_a2 v3 c_v3 v4 c_v4 v5 c_v5 v6 c_v6 v7 c_v7 σ hf
    unfold f_X2_work_25 at hf
    cases hf
  | succ k ih =>
    intro a1 h_a1 a2 h_a2 v3 c_v3 v4 c_v4 v5 c_v5 v6 c_v6 v7 c_v7 σ hf
    unfold f_X2_work_25 at hf
    refine aw_iload X 7 dX2_work_25 rfl ?_
    refine aw_aload_n X 1 dX2_work_27 rfl rfl ?_
    refine aw_getI X (sX1_0 a1 h_a1) fX2_64 rfl dX2_work_28 (fun c6 => ?_)
    refine aw_icmp_ge X (tgt := 108) c_v7 c6 dX2_work_31 (by decide) (fun h7 => ?_) (fun h7 => ?_)
    · rw [if_pos h7] at hf
      refine aw_sub [0, 1, 2, 3, 4, 5, 6] rfl ?_
      exact A_X2_work_108 X hr a1 h_a1 a2 h_a2 v3 c_v3 v4 c_v4 v5 c_v5 v6 c_v6 σ hf
    · rw [if_neg h7] at hf
      refine aw_iload X 6 dX2_work_34 rfl ?_
      refine aw_if_le X (tgt := 108) c_v6 dX2_work_36 (by decide) (fun h8 => ?_) (fun h8 => ?_)
      · rw [if_pos h8] at hf
        refine aw_sub [0, 1, 2, 3, 4, 5, 6] rfl ?_
        exact A_X2_work_108 X hr a1 h_a1 a2 h_a2 v3 c_v3 v4 c_v4 v5 c_v5 v6 c_v6 σ hf
      · rw [if_neg h8] at hf
        refine aw_aload_n X 0 dX2_work_39 rfl rfl ?_
        refine aw_aload_n X 1 dX2_work_40 rfl rfl ?_
        refine aw_aload_n X 2 dX2_work_41 rfl rfl ?_
        refine aw_iload_n X 3 dX2_work_42 rfl rfl ?_
        obtain ⟨q9, e10, hf⟩ := z_bd hf
        refine aw_callV X [.ref (ad a1), .ref (ad a2), z_i v3] [] [z_i q9] cX2_168 s_743 ciX2 (C_X2_mostUrgent l D cA sa ad bs a1 h_a1 a2 h_a2 v3 c_v3 σ q9 e10) rfl ⟨(Nat.le_of_ble_eq_true rfl), (Nat.le_of_ble_eq_true rfl), (Nat.le_of_ble_eq_true rfl), (Nat.le_of_ble_eq_true rfl)⟩ rfl (Nat.le_of_ble_eq_true rfl) rfl dX2_work_43 (fun p11 => ?_)
        refine aw_istore X [(8, z_i q9), (0, .ref (ad 743)), (1, .ref (ad a1)), (2, .ref (ad a2)), (3, z_i v3), (4, z_i v4), (5, z_i v5), (6, z_i v6), (7, z_i v7)] dX2_work_46 (by decide) rfl ?_
        refine aw_iload X 0 dX2_work_48 rfl ?_
        refine aw_iconst X dX2_work_50 ?_
        refine aw_icmp_ne X (tgt := 57) p11 (z_lit (x := (-1)) (by decide)) dX2_work_51 (by decide) (fun h12 => ?_) (fun h12 => ?_)
        · rw [if_neg h12] at hf
          refine aw_iload X 7 dX2_work_57 rfl ?_
          refine aw_aload_n X 3 dX2_work_59 rfl rfl ?_
          refine aw_getR X (sX7_0 a2 h_a2) fX2_127 rfl dX2_work_60 ?_
          refine aw_iload X 0 dX2_work_63 rfl ?_
          obtain ⟨g13, hf⟩ := z_gd hf
          refine aw_iald X (j := q9.toNat) (sX7_2 a2 h_a2) p11 g13.1 g13.2 rfl dX2_work_65 (fun c14 => ?_)
          refine aw_min X c_v6 c14 cX2_162 ⟨(Nat.le_of_ble_eq_true rfl), (Nat.le_of_ble_eq_true rfl), (Nat.le_of_ble_eq_true rfl), (Nat.le_of_ble_eq_true rfl)⟩ dX2_work_66 ?_
          refine aw_istore X [(9, z_i (min v6 (σ (a2 + 2) q9.toNat))), (8, z_i q9), (0, .ref (ad 743)), (1, .ref (ad a1)), (2, .ref (ad a2)), (3, z_i v3), (4, z_i v4), (5, z_i v5), (6, z_i v6), (7, z_i v7)] dX2_work_69 (by decide) rfl ?_
          refine aw_aload_n X 4 dX2_work_71 rfl rfl ?_
          refine aw_getR X (sX7_0 a2 h_a2) fX2_127 rfl dX2_work_72 ?_
          refine aw_iload X 1 dX2_work_75 rfl ?_
          refine aw_dup2 X dX2_work_77 rfl rfl ?_
          obtain ⟨g15, hf⟩ := z_gd hf
          refine aw_iald X (j := q9.toNat) (sX7_2 a2 h_a2) p11 g15.1 g15.2 rfl dX2_work_78 (fun c16 => ?_)
          refine aw_iload X 0 dX2_work_79 rfl ?_
          refine aw_isub X dX2_work_81 ?_
          obtain ⟨g17, hf⟩ := z_gd hf
          refine aw_iast X (j := q9.toNat) (sX7_2 a2 h_a2) p11 g17.1 g17.2 rfl (z_w_in _) dX2_work_82 ?_
          refine aw_aload_n X 2 dX2_work_83 rfl rfl ?_
          refine aw_getR X s_743 fX2_9 rfl dX2_work_84 ?_
          refine aw_iload X 1 dX2_work_87 rfl ?_
          refine aw_dup2 X dX2_work_89 rfl rfl ?_
          obtain ⟨g18, hf⟩ := z_gd hf
          refine aw_iald X (j := q9.toNat) s_744 p11 g18.1 g18.2 rfl dX2_work_90 (fun c19 => ?_)
          refine aw_iload X 0 dX2_work_91 rfl ?_
          refine aw_iadd X dX2_work_93 ?_
          obtain ⟨g20, hf⟩ := z_gd hf
          refine aw_iast X (j := q9.toNat) s_744 p11 g20.1 g20.2 rfl (z_w_in _) dX2_work_94 ?_
          refine aw_iload X 8 dX2_work_95 rfl ?_
          refine aw_iload X 0 dX2_work_97 rfl ?_
          refine aw_isub X dX2_work_99 ?_
          refine aw_istore X [(6, z_i (z_w (v6 - (min v6 (σ (a2 + 2) q9.toNat))))), (9, z_i (min v6 (σ (a2 + 2) q9.toNat))), (8, z_i q9), (0, .ref (ad 743)), (1, .ref (ad a1)), (2, .ref (ad a2)), (3, z_i v3), (4, z_i v4), (5, z_i v5), (7, z_i v7)] dX2_work_100 (by decide) rfl ?_
          refine aw_iinc X 9 [(7, z_i (z_w (v7 + 1))), (6, z_i (z_w (v6 - (min v6 (σ (a2 + 2) q9.toNat))))), (9, z_i (min v6 (σ (a2 + 2) q9.toNat))), (8, z_i q9), (0, .ref (ad 743)), (1, .ref (ad a1)), (2, .ref (ad a2)), (3, z_i v3), (4, z_i v4), (5, z_i v5)] dX2_work_102 rfl (by decide) rfl ?_
          refine aw_goto X (tgt := 25) dX2_work_105 (by decide) ?_
          refine aw_sub [4, 5, 6, 7, 8, 9, 1, 0] rfl ?_
          exact ih a1 h_a1 a2 h_a2 v3 c_v3 v4 c_v4 v5 c_v5 (z_w (v6 - (min v6 (σ (a2 + 2) q9.toNat)))) (z_w_in _) (z_w (v7 + 1)) (z_w_in _) (u2 (u2 σ (a2 + 2) q9.toNat (z_w ((σ (a2 + 2) q9.toNat) - (min v6 (σ (a2 + 2) q9.toNat))))) 744 q9.toNat (z_w (((u2 σ (a2 + 2) q9.toNat (z_w ((σ (a2 + 2) q9.toNat) - (min v6 (σ (a2 + 2) q9.toNat))))) 744 q9.toNat) + (min v6 (σ (a2 + 2) q9.toNat))))) hf
        · rw [if_pos h12] at hf
          refine aw_goto X (tgt := 108) dX2_work_54 (by decide) ?_
          refine aw_sub [1, 2, 3, 4, 5, 6, 7] rfl ?_
          exact A_X2_work_108 X hr a1 h_a1 a2 h_a2 v3 c_v3 v4 c_v4 v5 c_v5 v6 c_v6 σ hf
end S_X2_work
set_option maxHeartbeats 4000000 in
set_option maxRecDepth 100000 in
theorem C_X2_work (l : Launch) (D : va_G) (cA : Nat → ClassId) (sa ad : Nat → Nat) (bs : Nat) (a1 : Nat) (h_a1 : a1 ∈ ax_iX1) (a2 : Nat) (h_a2 : a2 ∈ ax_iX7) (v3 : Int) (c_v3 : Z_I v3) (σ : Nat → Nat → Int) (q : (Int × (Nat → Nat → Int))) (hf : f_X2_work a1 a2 v3 σ = some q) : AM l D cA sa ad bs 788 SHp yX2_work cX2_work 10 (some .int) 2 [.ref (ad 743), .ref (ad a1), .ref (ad a2), z_i v3] σ (some (z_i q.1)) (Z_I q.1) q.2 := by
  refine am_of (by decide +kernel) (Nat.le_of_ble_eq_true rfl) (fun p e s m args below meth c X hr => ?_)
  refine aw_lv (lv' := [(0, .ref (ad 743)), (1, .ref (ad a1)), (2, .ref (ad a2)), (3, z_i v3)]) rfl ?_
  unfold f_X2_work at hf
  refine aw_aload_n X 1 dX2_work_0 rfl rfl ?_
  refine aw_getR X (sX1_0 a1 h_a1) fX2_73 rfl dX2_work_1 ?_
  refine aw_iload_n X 3 dX2_work_4 rfl rfl ?_
  obtain ⟨g1, hf⟩ := z_gd hf
  refine aw_iald X (j := v3.toNat) (sX1_14 a1 h_a1) c_v3 g1.1 g1.2 rfl dX2_work_5 (fun c2 => ?_)
  refine aw_istore X [(4, z_i (σ (a1 + 14) v3.toNat)), (0, .ref (ad 743)), (1, .ref (ad a1)), (2, .ref (ad a2)), (3, z_i v3)] dX2_work_6 (by decide) rfl ?_
  refine aw_aload_n X 1 dX2_work_8 rfl rfl ?_
  refine aw_aload_n X 2 dX2_work_9 rfl rfl ?_
  refine aw_aload_n X 3 dX2_work_10 rfl rfl ?_
  refine aw_iload X 0 dX2_work_11 rfl ?_
  obtain ⟨q3, e4, hf⟩ := z_bd hf
  refine aw_callV X [.ref (ad a1), .ref (ad a2), z_i (σ (a1 + 14) v3.toNat)] [] [z_i q3] cX2_165 s_743 ciX2 (C_X2_speedOf l D cA sa ad bs a1 h_a1 a2 h_a2 (σ (a1 + 14) v3.toNat) c2 σ q3 e4) rfl ⟨(Nat.le_of_ble_eq_true rfl), (Nat.le_of_ble_eq_true rfl), (Nat.le_of_ble_eq_true rfl), (Nat.le_of_ble_eq_true rfl)⟩ rfl (Nat.le_of_ble_eq_true rfl) rfl dX2_work_13 (fun p5 => ?_)
  refine aw_istore X [(5, z_i q3), (4, z_i (σ (a1 + 14) v3.toNat)), (0, .ref (ad 743)), (1, .ref (ad a1)), (2, .ref (ad a2)), (3, z_i v3)] dX2_work_16 (by decide) rfl ?_
  refine aw_iload X 0 dX2_work_18 rfl ?_
  refine aw_istore X [(6, z_i q3), (5, z_i q3), (4, z_i (σ (a1 + 14) v3.toNat)), (0, .ref (ad 743)), (1, .ref (ad a1)), (2, .ref (ad a2)), (3, z_i v3)] dX2_work_20 (by decide) rfl ?_
  refine aw_iconst X dX2_work_22 ?_
  refine aw_istore X [(7, z_i 0), (6, z_i q3), (5, z_i q3), (4, z_i (σ (a1 + 14) v3.toNat)), (0, .ref (ad 743)), (1, .ref (ad a1)), (2, .ref (ad a2)), (3, z_i v3)] dX2_work_23 (by decide) rfl ?_
  refine aw_sub [4, 5, 6, 7, 3, 2, 1, 0] rfl ?_
  exact A_X2_work_25 X hr 100000 a1 h_a1 a2 h_a2 v3 c_v3 (σ (a1 + 14) v3.toNat) c2 q3 p5 q3 p5 0 (z_lit (x := 0) (by decide)) σ hf
-- SpeedDesk.cut(II)I
section S_X11_cut
variable {p : Program} {l : Launch} {e : Env} {s : State} {m : MethodId} {args : Array Value} {below : List Frame} {meth : Method} {c : Code} {D : va_G} {cA : Nat → ClassId} {sa ad : Nat → Nat} {bs : Nat} {q : Int}

end S_X11_cut
set_option maxHeartbeats 4000000 in
set_option maxRecDepth 100000 in
theorem C_X11_cut (l : Launch) (D : va_G) (cA : Nat → ClassId) (sa ad : Nat → Nat) (bs : Nat) (v0 : Int) (c_v0 : Z_I v0) (v1 : Int) (c_v1 : Z_I v1) (σ : Nat → Nat → Int) (q : Int) (hf : f_X11_cut v0 v1 σ = some q) : AM l D cA sa ad bs 788 SHp yX11_cut cX11_cut 2 (some .int) 0 [z_i v0, z_i v1] σ (some (z_i q)) (Z_I q) σ := by
  refine am_of (by decide +kernel) (Nat.le_of_ble_eq_true rfl) (fun p e s m args below meth c X hr => ?_)
  refine aw_lv (lv' := [(0, z_i v0), (1, z_i v1)]) rfl ?_
  unfold f_X11_cut at hf
  refine aw_iload_n X 1 dX11_cut_0 rfl rfl ?_
  refine aw_iconst X dX11_cut_1 ?_
  refine aw_icmp_ge X (tgt := 9) c_v1 (z_lit (x := 1) (by decide)) dX11_cut_2 (by decide) (fun h1 => ?_) (fun h1 => ?_)
  · rw [if_pos h1] at hf
    refine aw_iload_n X 0 dX11_cut_9 rfl rfl ?_
    refine aw_iload_n X 1 dX11_cut_10 rfl rfl ?_
    obtain ⟨g2, hf⟩ := z_gd hf
    refine aw_idiv X c_v0 c_v1 g2 dX11_cut_11 ?_
    obtain rfl := Option.some.inj hf
    exact aw_iret X (z_w_in _) hr rfl dX11_cut_12
  · rw [if_neg h1] at hf
    refine aw_iconst X dX11_cut_5 ?_
    refine aw_goto X (tgt := 12) dX11_cut_6 (by decide) ?_
    obtain rfl := Option.some.inj hf
    exact aw_iret X (z_lit (x := 0) (by decide)) hr rfl dX11_cut_12
