-- SpeedDesk$Planner.reach(II)V
section S_X5_reach
variable {p : Program} {l : Launch} {e : Env} {s : State} {m : MethodId} {args : Array Value} {below : List Frame} {meth : Method} {c : Code} {D : va_G} {cA : Nat → ClassId} {sa ad : Nat → Nat} {bs : Nat} {q : (Nat → Nat → Int)}
set_option maxHeartbeats 4000000 in
set_option maxRecDepth 100000 in
theorem A_X5_reach_26 (X : AX p s m args meth c D cA sa bs cX5_reach 4 RX5) (hr : meth.sig.returnType = none) (v1 : Int) (c_v1 : Z_I v1) (v2 : Int) (c_v2 : Z_I v2) (t0 : Int) (c_t0 : Z_I t0) (σ : Nat → Nat → Int) (hf : f_X5_reach_26 v1 v2 t0 σ = some q) : AW p l e (ax_rm 0 0 0) s m args below meth c D cA ad bs 788 SHp 0 0 (ax_MQ below args s D cA ad bs 788 SHp 0 0 none True q) 4 26 [(0, .ref (ad 745)), (1, z_i v1), (2, z_i v2)] [z_i t0] σ := by
  unfold f_X5_reach_26 at hf
  refine aw_istore_n X [(3, z_i t0), (0, .ref (ad 745)), (1, z_i v1), (2, z_i v2)] dX5_reach_26 rfl (by decide) rfl ?_
  refine aw_iload_n X 0 dX5_reach_27 rfl rfl ?_
  refine aw_if_ne X (tgt := 41) c_t0 dX5_reach_28 (by decide) (fun h6 => ?_) (fun h6 => ?_)
  · rw [if_neg h6] at hf
    obtain rfl := Option.some.inj hf
    exact aw_vret X trivial hr rfl dX5_reach_41
  · rw [if_pos h6] at hf
    refine aw_aload_n X 1 dX5_reach_31 rfl rfl ?_
    refine aw_getI X s_745 fX5_85 rfl dX5_reach_32 (fun c7 => ?_)
    refine aw_sipush X dX5_reach_35 (by decide) ?_
    refine aw_icmp_lt X (tgt := 42) c7 (z_lit (x := 1296) (by decide)) dX5_reach_38 (by decide) (fun h8 => ?_) (fun h8 => ?_)
    · rw [if_pos h8] at hf
      refine aw_aload_n X 1 dX5_reach_42 rfl rfl ?_
      refine aw_getR X s_745 fX5_33 rfl dX5_reach_43 ?_
      refine aw_iload_n X 2 dX5_reach_46 rfl rfl ?_
      refine aw_iload_n X 3 dX5_reach_47 rfl rfl ?_
      obtain ⟨g9, hf⟩ := z_gd hf
      refine aw_iast X (j := v1.toNat) s_753 c_v1 g9.1 g9.2 rfl c_v2 dX5_reach_48 ?_
      refine aw_aload_n X 1 dX5_reach_49 rfl rfl ?_
      refine aw_getR X s_745 fX5_36 rfl dX5_reach_50 ?_
      refine aw_aload_n X 1 dX5_reach_53 rfl rfl ?_
      refine aw_getI X s_745 fX5_85 rfl dX5_reach_54 (fun c10 => ?_)
      refine aw_iload_n X 2 dX5_reach_57 rfl rfl ?_
      obtain ⟨g11, hf⟩ := z_gd hf
      refine aw_iast X (j := ((u2 σ 753 v1.toNat v2) 745 10).toNat) s_754 c10 g11.1 g11.2 rfl c_v1 dX5_reach_58 ?_
      refine aw_aload_n X 1 dX5_reach_59 rfl rfl ?_
      refine aw_dup X dX5_reach_60 rfl ?_
      refine aw_getI X s_745 fX5_85 rfl dX5_reach_61 (fun c12 => ?_)
      refine aw_iconst X dX5_reach_64 ?_
      refine aw_iadd X dX5_reach_65 ?_
      refine aw_putI X s_745 pX5_85 rfl (z_w_in _) dX5_reach_66 ?_
      obtain rfl := Option.some.inj hf
      exact aw_vret X trivial hr rfl dX5_reach_69
    · rw [if_neg h8] at hf
      obtain rfl := Option.some.inj hf
      exact aw_vret X trivial hr rfl dX5_reach_41
end S_X5_reach
set_option maxHeartbeats 4000000 in
set_option maxRecDepth 100000 in
theorem C_X5_reach (l : Launch) (D : va_G) (cA : Nat → ClassId) (sa ad : Nat → Nat) (bs : Nat) (v1 : Int) (c_v1 : Z_I v1) (v2 : Int) (c_v2 : Z_I v2) (σ : Nat → Nat → Int) (q : (Nat → Nat → Int)) (hf : f_X5_reach v1 v2 σ = some q) : AM l D cA sa ad bs 788 SHp yX5_reach cX5_reach 4 none 0 [.ref (ad 745), z_i v1, z_i v2] σ none True q := by
  refine am_of (by decide +kernel) (Nat.le_of_ble_eq_true rfl) (fun p e s m args below meth c X hr => ?_)
  refine aw_lv (lv' := [(0, .ref (ad 745)), (1, z_i v1), (2, z_i v2)]) rfl ?_
  unfold f_X5_reach at hf
  refine aw_iload_n X 1 dX5_reach_0 rfl rfl ?_
  refine aw_if_lt X (tgt := 21) c_v1 dX5_reach_1 (by decide) (fun h1 => ?_) (fun h1 => ?_)
  · rw [if_pos h1] at hf
    refine aw_iconst X dX5_reach_21 ?_
    refine aw_goto X (tgt := 26) dX5_reach_22 (by decide) ?_
    exact A_X5_reach_26 X hr v1 c_v1 v2 c_v2 1 (z_lit (x := 1) (by decide)) σ hf
  · rw [if_neg h1] at hf
    refine aw_iload_n X 1 dX5_reach_4 rfl rfl ?_
    refine aw_sipush X dX5_reach_5 (by decide) ?_
    refine aw_icmp_ge X (tgt := 21) c_v1 (z_lit (x := 1296) (by decide)) dX5_reach_8 (by decide) (fun h2 => ?_) (fun h2 => ?_)
    · rw [if_pos h2] at hf
      refine aw_iconst X dX5_reach_21 ?_
      refine aw_goto X (tgt := 26) dX5_reach_22 (by decide) ?_
      exact A_X5_reach_26 X hr v1 c_v1 v2 c_v2 1 (z_lit (x := 1) (by decide)) σ hf
    · rw [if_neg h2] at hf
      refine aw_aload_n X 0 dX5_reach_11 rfl rfl ?_
      refine aw_getR X s_745 fX5_33 rfl dX5_reach_12 ?_
      refine aw_iload_n X 1 dX5_reach_15 rfl rfl ?_
      obtain ⟨g3, hf⟩ := z_gd hf
      refine aw_iald X (j := v1.toNat) s_753 c_v1 g3.1 g3.2 rfl dX5_reach_16 (fun c4 => ?_)
      refine aw_iconst X dX5_reach_17 ?_
      refine aw_icmp_eq X (tgt := 25) c4 (z_lit (x := (-1)) (by decide)) dX5_reach_18 (by decide) (fun h5 => ?_) (fun h5 => ?_)
      · simp only [if_pos h5] at hf
        refine aw_iconst X dX5_reach_25 ?_
        exact A_X5_reach_26 X hr v1 c_v1 v2 c_v2 0 (z_lit (x := 0) (by decide)) σ hf
      · simp only [if_neg h5] at hf
        refine aw_iconst X dX5_reach_21 ?_
        refine aw_goto X (tgt := 26) dX5_reach_22 (by decide) ?_
        exact A_X5_reach_26 X hr v1 c_v1 v2 c_v2 1 (z_lit (x := 1) (by decide)) σ hf
-- SpeedDesk$Planner.reachNeighbours(LSpeedDesk$Chip;I)V
section S_X5_reachNeighbours
variable {p : Program} {l : Launch} {e : Env} {s : State} {m : MethodId} {args : Array Value} {below : List Frame} {meth : Method} {c : Code} {D : va_G} {cA : Nat → ClassId} {sa ad : Nat → Nat} {bs : Nat} {q : (Nat → Nat → Int)}
set_option maxHeartbeats 4000000 in
set_option maxRecDepth 100000 in
theorem A_X5_reachNeighbours_35 (X : AX p s m args meth c D cA sa bs cX5_reachNeighbours 8 RX5) (hr : meth.sig.returnType = none) (K10 : Nat → Int → Int → Int → (Nat → Nat → Int) → Option (Nat → Nat → Int)) (hK10 : ∀ (a1 : Nat) (h_a1 : a1 ∈ ax_iX1) (v2 : Int) (c_v2 : Z_I v2) (v3 : Int) (c_v3 : Z_I v3) (v4 : Int) (c_v4 : Z_I v4) (σ : Nat → Nat → Int), K10 a1 v2 v3 v4 σ = some q → AW p l e (ax_rm 1 0 0) s m args below meth c D cA ad bs 788 SHp 0 0 (ax_MQ below args s D cA ad bs 788 SHp 0 0 none True q) 8 10 [(0, .ref (ad 745)), (1, .ref (ad a1)), (2, z_i v2), (3, z_i v3), (4, z_i v4)] [] σ) : ∀ (k : Nat) (a1 : Nat) (h_a1 : a1 ∈ ax_iX1) (v2 : Int) (c_v2 : Z_I v2) (v3 : Int) (c_v3 : Z_I v3) (v4 : Int) (c_v4 : Z_I v4) (v5 : Int) (c_v5 : Z_I v5) (v6 : Int) (c_v6 : Z_I v6) (σ : Nat → Nat → Int), f_X5_reachNeighbours_35 K10 k a1 v2 v3 v4 v5 v6 σ = some q → AW p l e (ax_rm 1 0 0) s m args below meth c D cA ad bs 788 SHp 0 0 (ax_MQ below args s D cA ad bs 788 SHp 0 0 none True q) 8 35 [(0, .ref (ad 745)), (1, .ref (ad a1)), (2, z_i v2), (3, z_i v3), (4, z_i v4), (5, z_i v5), (6, z_i v6)] [] σ := by
  intro k
  induction k with
  | zero =>
    intro a1 h_a1 v2 c_v2 v3 c_v3 v4 c_v4 v5 c_v5 v6 c_v6 σ hf
    unfold f_X5_reachNeighbours_35 at hf
    cases hf
  | succ k ih =>
    intro a1 h_a1 v2 c_v2 v3 c_v3 v4 c_v4 v5 c_v5 v6 c_v6 σ hf
    unfold f_X5_reachNeighbours_35 at hf
    refine aw_iload X 6 dX5_reachNeighbours_35 rfl ?_
    refine aw_aload_n X 1 dX5_reachNeighbours_37 rfl rfl ?_
    refine aw_getI X (sX1_0 a1 h_a1) fX5_132 rfl dX5_reachNeighbours_38 (fun c8 => ?_)
    refine aw_icmp_ge X (tgt := 99) c_v6 c8 dX5_reachNeighbours_41 (by decide) (fun h9 => ?_) (fun h9 => ?_)
    · rw [if_pos h9] at hf
      refine aw_iload_n X 3 dX5_reachNeighbours_99 rfl rfl ?_
      refine aw_aload_n X 1 dX5_reachNeighbours_100 rfl rfl ?_
      refine aw_getI X (sX1_0 a1 h_a1) fX5_132 rfl dX5_reachNeighbours_101 (fun c10 => ?_)
      refine aw_imul X dX5_reachNeighbours_104 ?_
      refine aw_istore_n X [(3, z_i (z_w (v3 * (σ a1 2)))), (0, .ref (ad 745)), (1, .ref (ad a1)), (2, z_i v2), (4, z_i v4), (5, z_i v5), (6, z_i v6)] dX5_reachNeighbours_105 rfl (by decide) rfl ?_
      refine aw_iinc X 4 [(4, z_i (z_w (v4 + (-1)))), (3, z_i (z_w (v3 * (σ a1 2)))), (0, .ref (ad 745)), (1, .ref (ad a1)), (2, z_i v2), (5, z_i v5), (6, z_i v6)] dX5_reachNeighbours_106 rfl (by decide) rfl ?_
      refine aw_goto X (tgt := 10) dX5_reachNeighbours_109 (by decide) ?_
      refine aw_sub [2, 3, 4, 1, 0] rfl ?_
      exact hK10 a1 h_a1 v2 c_v2 (z_w (v3 * (σ a1 2))) (z_w_in _) (z_w (v4 + (-1))) (z_w_in _) σ hf
    · rw [if_neg h9] at hf
      refine aw_iload_n X 2 dX5_reachNeighbours_44 rfl rfl ?_
      refine aw_iload X 6 dX5_reachNeighbours_45 rfl ?_
      refine aw_iload X 5 dX5_reachNeighbours_47 rfl ?_
      refine aw_isub X dX5_reachNeighbours_49 ?_
      refine aw_iload_n X 3 dX5_reachNeighbours_50 rfl rfl ?_
      refine aw_imul X dX5_reachNeighbours_51 ?_
      refine aw_iadd X dX5_reachNeighbours_52 ?_
      refine aw_istore X [(7, z_i (z_w (v2 + (z_w ((z_w (v6 - v5)) * v3))))), (0, .ref (ad 745)), (1, .ref (ad a1)), (2, z_i v2), (3, z_i v3), (4, z_i v4), (5, z_i v5), (6, z_i v6)] dX5_reachNeighbours_53 (by decide) rfl ?_
      refine aw_iload X 0 dX5_reachNeighbours_55 rfl ?_
      refine aw_if_lt X (tgt := 93) (z_w_in _) dX5_reachNeighbours_57 (by decide) (fun h11 => ?_) (fun h11 => ?_)
      · rw [if_pos h11] at hf
        refine aw_iinc X 7 [(6, z_i (z_w (v6 + 1))), (7, z_i (z_w (v2 + (z_w ((z_w (v6 - v5)) * v3))))), (0, .ref (ad 745)), (1, .ref (ad a1)), (2, z_i v2), (3, z_i v3), (4, z_i v4), (5, z_i v5)] dX5_reachNeighbours_93 rfl (by decide) rfl ?_
        refine aw_goto X (tgt := 35) dX5_reachNeighbours_96 (by decide) ?_
        refine aw_sub [2, 3, 4, 5, 6, 7, 0] rfl ?_
        exact ih a1 h_a1 v2 c_v2 v3 c_v3 v4 c_v4 v5 c_v5 (z_w (v6 + 1)) (z_w_in _) σ hf
      · rw [if_neg h11] at hf
        refine aw_iload X 0 dX5_reachNeighbours_60 rfl ?_
        refine aw_sipush X dX5_reachNeighbours_62 (by decide) ?_
        refine aw_icmp_ge X (tgt := 93) (z_w_in _) (z_lit (x := 1296) (by decide)) dX5_reachNeighbours_65 (by decide) (fun h12 => ?_) (fun h12 => ?_)
        · rw [if_pos h12] at hf
          refine aw_iinc X 7 [(6, z_i (z_w (v6 + 1))), (7, z_i (z_w (v2 + (z_w ((z_w (v6 - v5)) * v3))))), (0, .ref (ad 745)), (1, .ref (ad a1)), (2, z_i v2), (3, z_i v3), (4, z_i v4), (5, z_i v5)] dX5_reachNeighbours_93 rfl (by decide) rfl ?_
          refine aw_goto X (tgt := 35) dX5_reachNeighbours_96 (by decide) ?_
          refine aw_sub [2, 3, 4, 5, 6, 7, 0] rfl ?_
          exact ih a1 h_a1 v2 c_v2 v3 c_v3 v4 c_v4 v5 c_v5 (z_w (v6 + 1)) (z_w_in _) σ hf
        · rw [if_neg h12] at hf
          refine aw_aload_n X 1 dX5_reachNeighbours_68 rfl rfl ?_
          refine aw_getR X s_745 fX5_30 rfl dX5_reachNeighbours_69 ?_
          refine aw_iload X 0 dX5_reachNeighbours_72 rfl ?_
          obtain ⟨g13, hf⟩ := z_gd hf
          refine aw_iald X (j := (z_w (v2 + (z_w ((z_w (v6 - v5)) * v3)))).toNat) s_752 (z_w_in _) g13.1 g13.2 rfl dX5_reachNeighbours_74 (fun c14 => ?_)
          refine aw_iconst X dX5_reachNeighbours_75 ?_
          refine aw_icmp_eq X (tgt := 93) c14 (z_lit (x := (-1)) (by decide)) dX5_reachNeighbours_76 (by decide) (fun h15 => ?_) (fun h15 => ?_)
          · rw [if_pos h15] at hf
            refine aw_iinc X 7 [(6, z_i (z_w (v6 + 1))), (7, z_i (z_w (v2 + (z_w ((z_w (v6 - v5)) * v3))))), (0, .ref (ad 745)), (1, .ref (ad a1)), (2, z_i v2), (3, z_i v3), (4, z_i v4), (5, z_i v5)] dX5_reachNeighbours_93 rfl (by decide) rfl ?_
            refine aw_goto X (tgt := 35) dX5_reachNeighbours_96 (by decide) ?_
            refine aw_sub [2, 3, 4, 5, 6, 7, 0] rfl ?_
            exact ih a1 h_a1 v2 c_v2 v3 c_v3 v4 c_v4 v5 c_v5 (z_w (v6 + 1)) (z_w_in _) σ hf
          · rw [if_neg h15] at hf
            refine aw_aload_n X 1 dX5_reachNeighbours_79 rfl rfl ?_
            refine aw_iload X 0 dX5_reachNeighbours_80 rfl ?_
            refine aw_aload_n X 1 dX5_reachNeighbours_82 rfl rfl ?_
            refine aw_getR X s_745 fX5_33 rfl dX5_reachNeighbours_83 ?_
            refine aw_iload_n X 3 dX5_reachNeighbours_86 rfl rfl ?_
            obtain ⟨g16, hf⟩ := z_gd hf
            refine aw_iald X (j := v2.toNat) s_753 c_v2 g16.1 g16.2 rfl dX5_reachNeighbours_87 (fun c17 => ?_)
            refine aw_iconst X dX5_reachNeighbours_88 ?_
            refine aw_iadd X dX5_reachNeighbours_89 ?_
            obtain ⟨q18, e19, hf⟩ := z_bd hf
            refine aw_callV X [z_i (z_w (v2 + (z_w ((z_w (v6 - v5)) * v3)))), z_i (z_w ((σ 753 v2.toNat) + 1))] [] [] cX5_92 s_745 ciX5 (C_X5_reach l D cA sa ad bs (z_w (v2 + (z_w ((z_w (v6 - v5)) * v3)))) (z_w_in _) (z_w ((σ 753 v2.toNat) + 1)) (z_w_in _) σ q18 e19) rfl ⟨(Nat.le_of_ble_eq_true rfl), (Nat.le_of_ble_eq_true rfl), (Nat.le_of_ble_eq_true rfl), (Nat.le_of_ble_eq_true rfl)⟩ rfl (Nat.le_of_ble_eq_true rfl) rfl dX5_reachNeighbours_90 (fun p20 => ?_)
            refine aw_iinc X 7 [(6, z_i (z_w (v6 + 1))), (7, z_i (z_w (v2 + (z_w ((z_w (v6 - v5)) * v3))))), (0, .ref (ad 745)), (1, .ref (ad a1)), (2, z_i v2), (3, z_i v3), (4, z_i v4), (5, z_i v5)] dX5_reachNeighbours_93 rfl (by decide) rfl ?_
            refine aw_goto X (tgt := 35) dX5_reachNeighbours_96 (by decide) ?_
            refine aw_sub [2, 3, 4, 5, 6, 7, 0] rfl ?_
            exact ih a1 h_a1 v2 c_v2 v3 c_v3 v4 c_v4 v5 c_v5 (z_w (v6 + 1)) (z_w_in _) q18 hf
set_option maxHeartbeats 4000000 in
set_option maxRecDepth 100000 in
theorem A_X5_reachNeighbours_10 (X : AX p s m args meth c D cA sa bs cX5_reachNeighbours 8 RX5) (hr : meth.sig.returnType = none) : ∀ (k : Nat) (a1 : Nat) (h_a1 : a1 ∈ ax_iX1) (v2 : Int) (c_v2 : Z_I v2) (v3 : Int) (c_v3 : Z_I v3) (v4 : Int) (c_v4 : Z_I v4) (σ : Nat → Nat → Int), f_X5_reachNeighbours_10 k a1 v2 v3 v4 σ = some q → AW p l e (ax_rm 1 0 0) s m args below meth c D cA ad bs 788 SHp 0 0 (ax_MQ below args s D cA ad bs 788 SHp 0 0 none True q) 8 10 [(0, .ref (ad 745)), (1, .ref (ad a1)), (2, z_i v2), (3, z_i v3), (4, z_i v4)] [] σ := by
  intro k
  induction k with
  | zero =>
    intro a1 h_a1 v2 c_v2 v3 c_v3 v4 c_v4 σ hf
    unfold f_X5_reachNeighbours_10 at hf
    cases hf
  | succ k ih =>
    intro a1 h_a1 v2 c_v2 v3 c_v3 v4 c_v4 σ hf
    unfold f_X5_reachNeighbours_10 at hf
    refine aw_iload X 4 dX5_reachNeighbours_10 rfl ?_
    refine aw_if_lt X (tgt := 112) c_v4 dX5_reachNeighbours_12 (by decide) (fun h2 => ?_) (fun h2 => ?_)
    · rw [if_pos h2] at hf
      obtain rfl := Option.some.inj hf
      exact aw_vret X trivial hr rfl dX5_reachNeighbours_112
    · rw [if_neg h2] at hf
      refine aw_aload_n X 1 dX5_reachNeighbours_15 rfl rfl ?_
      refine aw_getI X (sX1_0 a1 h_a1) fX5_132 rfl dX5_reachNeighbours_16 (fun c3 => ?_)
      refine aw_if_le X (tgt := 112) c3 dX5_reachNeighbours_19 (by decide) (fun h4 => ?_) (fun h4 => ?_)
      · rw [if_pos h4] at hf
        obtain rfl := Option.some.inj hf
        exact aw_vret X trivial hr rfl dX5_reachNeighbours_112
      · rw [if_neg h4] at hf
        refine aw_iload_n X 2 dX5_reachNeighbours_22 rfl rfl ?_
        refine aw_iload_n X 3 dX5_reachNeighbours_23 rfl rfl ?_
        obtain ⟨g5, hf⟩ := z_gd hf
        refine aw_idiv X c_v2 c_v3 g5 dX5_reachNeighbours_24 ?_
        refine aw_aload_n X 1 dX5_reachNeighbours_25 rfl rfl ?_
        refine aw_getI X (sX1_0 a1 h_a1) fX5_132 rfl dX5_reachNeighbours_26 (fun c6 => ?_)
        obtain ⟨g7, hf⟩ := z_gd hf
        refine aw_irem X (z_w_in _) c6 g7 dX5_reachNeighbours_29 ?_
        refine aw_istore X [(5, z_i (z_w (Int.tmod (z_w (Int.tdiv v2 v3)) (σ a1 2)))), (0, .ref (ad 745)), (1, .ref (ad a1)), (2, z_i v2), (3, z_i v3), (4, z_i v4)] dX5_reachNeighbours_30 (by decide) rfl ?_
        refine aw_iconst X dX5_reachNeighbours_32 ?_
        refine aw_istore X [(6, z_i 0), (5, z_i (z_w (Int.tmod (z_w (Int.tdiv v2 v3)) (σ a1 2)))), (0, .ref (ad 745)), (1, .ref (ad a1)), (2, z_i v2), (3, z_i v3), (4, z_i v4)] dX5_reachNeighbours_33 (by decide) rfl ?_
        refine aw_sub [2, 3, 4, 5, 6, 1, 0] rfl ?_
        exact A_X5_reachNeighbours_35 X hr (f_X5_reachNeighbours_10 k) ih 100000 a1 h_a1 v2 c_v2 v3 c_v3 v4 c_v4 (z_w (Int.tmod (z_w (Int.tdiv v2 v3)) (σ a1 2))) (z_w_in _) 0 (z_lit (x := 0) (by decide)) σ hf
end S_X5_reachNeighbours
set_option maxHeartbeats 4000000 in
set_option maxRecDepth 100000 in
theorem C_X5_reachNeighbours (l : Launch) (D : va_G) (cA : Nat → ClassId) (sa ad : Nat → Nat) (bs : Nat) (a1 : Nat) (h_a1 : a1 ∈ ax_iX1) (v2 : Int) (c_v2 : Z_I v2) (σ : Nat → Nat → Int) (q : (Nat → Nat → Int)) (hf : f_X5_reachNeighbours a1 v2 σ = some q) : AM l D cA sa ad bs 788 SHp yX5_reachNeighbours cX5_reachNeighbours 8 none 1 [.ref (ad 745), .ref (ad a1), z_i v2] σ none True q := by
  refine am_of (by decide +kernel) (Nat.le_of_ble_eq_true rfl) (fun p e s m args below meth c X hr => ?_)
  refine aw_lv (lv' := [(0, .ref (ad 745)), (1, .ref (ad a1)), (2, z_i v2)]) rfl ?_
  unfold f_X5_reachNeighbours at hf
  refine aw_iconst X dX5_reachNeighbours_0 ?_
  refine aw_istore_n X [(3, z_i 1), (0, .ref (ad 745)), (1, .ref (ad a1)), (2, z_i v2)] dX5_reachNeighbours_1 rfl (by decide) rfl ?_
  refine aw_aload_n X 2 dX5_reachNeighbours_2 rfl rfl ?_
  refine aw_getI X (sX1_0 a1 h_a1) fX5_69 rfl dX5_reachNeighbours_3 (fun c1 => ?_)
  refine aw_iconst X dX5_reachNeighbours_6 ?_
  refine aw_isub X dX5_reachNeighbours_7 ?_
  refine aw_istore X [(4, z_i (z_w ((σ a1 1) - 1))), (3, z_i 1), (0, .ref (ad 745)), (1, .ref (ad a1)), (2, z_i v2)] dX5_reachNeighbours_8 (by decide) rfl ?_
  refine aw_sub [2, 3, 4, 1, 0] rfl ?_
  exact A_X5_reachNeighbours_10 X hr 100000 a1 h_a1 v2 c_v2 1 (z_lit (x := 1) (by decide)) (z_w ((σ a1 1) - 1)) (z_w_in _) σ hf
-- SpeedDesk$Planner.fewestMoves(LSpeedDesk$Chip;LSpeedDesk$State;)I
section S_X5_fewestMoves
variable {p : Program} {l : Launch} {e : Env} {s : State} {m : MethodId} {args : Array Value} {below : List Frame} {meth : Method} {c : Code} {D : va_G} {cA : Nat → ClassId} {sa ad : Nat → Nat} {bs : Nat} {q : (Int × (Nat → Nat → Int))}
set_option maxHeartbeats 4000000 in
set_option maxRecDepth 100000 in
theorem A_X5_fewestMoves_54 (X : AX p s m args meth c D cA sa bs cX5_fewestMoves 5 RX5) (hr : meth.sig.returnType = (some .int)) : ∀ (k : Nat) (a1 : Nat) (h_a1 : a1 ∈ ax_iX1) (v3 : Int) (c_v3 : Z_I v3) (σ : Nat → Nat → Int), f_X5_fewestMoves_54 k a1 v3 σ = some q → AW p l e (ax_rm 4 0 0) s m args below meth c D cA ad bs 788 SHp 0 0 (ax_MQ below args s D cA ad bs 788 SHp 0 0 (some (z_i q.1)) (Z_I q.1) q.2) 5 54 [(0, .ref (ad 745)), (1, .ref (ad a1)), (3, z_i v3)] [] σ := by
  intro k
  induction k with
  | zero =>
    intro a1 h_a1 v3 c_v3 σ hf
    unfold f_X5_fewestMoves_54 at hf
    cases hf
  | succ k ih =>
    intro a1 h_a1 v3 c_v3 σ hf
    unfold f_X5_fewestMoves_54 at hf
    refine aw_iload_n X 2 dX5_fewestMoves_54 rfl rfl ?_
    refine aw_aload_n X 0 dX5_fewestMoves_55 rfl rfl ?_
    refine aw_getI X s_745 fX5_85 rfl dX5_fewestMoves_56 (fun c13 => ?_)
    refine aw_icmp_ge X (tgt := 112) c_v3 c13 dX5_fewestMoves_59 (by decide) (fun h14 => ?_) (fun h14 => ?_)
    · rw [if_pos h14] at hf
      refine aw_iconst X dX5_fewestMoves_112 ?_
      obtain rfl := Option.some.inj hf
      exact aw_iret X (z_lit (x := (-1)) (by decide)) hr rfl dX5_fewestMoves_113
    · rw [if_neg h14] at hf
      refine aw_iload_n X 2 dX5_fewestMoves_62 rfl rfl ?_
      refine aw_sipush X dX5_fewestMoves_63 (by decide) ?_
      refine aw_icmp_ge X (tgt := 112) c_v3 (z_lit (x := 1296) (by decide)) dX5_fewestMoves_66 (by decide) (fun h15 => ?_) (fun h15 => ?_)
      · rw [if_pos h15] at hf
        refine aw_iconst X dX5_fewestMoves_112 ?_
        obtain rfl := Option.some.inj hf
        exact aw_iret X (z_lit (x := (-1)) (by decide)) hr rfl dX5_fewestMoves_113
      · rw [if_neg h15] at hf
        refine aw_aload_n X 0 dX5_fewestMoves_69 rfl rfl ?_
        refine aw_getR X s_745 fX5_36 rfl dX5_fewestMoves_70 ?_
        refine aw_iload_n X 2 dX5_fewestMoves_73 rfl rfl ?_
        obtain ⟨g16, hf⟩ := z_gd hf
        refine aw_iald X (j := v3.toNat) s_754 c_v3 g16.1 g16.2 rfl dX5_fewestMoves_74 (fun c17 => ?_)
        refine aw_istore X [(4, z_i (σ 754 v3.toNat)), (0, .ref (ad 745)), (1, .ref (ad a1)), (3, z_i v3)] dX5_fewestMoves_75 (by decide) rfl ?_
        refine aw_aload_n X 1 dX5_fewestMoves_77 rfl rfl ?_
        refine aw_getR X s_745 fX5_30 rfl dX5_fewestMoves_78 ?_
        refine aw_iload X 0 dX5_fewestMoves_81 rfl ?_
        obtain ⟨g18, hf⟩ := z_gd hf
        refine aw_iald X (j := (σ 754 v3.toNat).toNat) s_752 c17 g18.1 g18.2 rfl dX5_fewestMoves_83 (fun c19 => ?_)
        refine aw_aload_n X 1 dX5_fewestMoves_84 rfl rfl ?_
        refine aw_getI X s_745 fX5_58 rfl dX5_fewestMoves_85 (fun c20 => ?_)
        refine aw_icmp_ne X (tgt := 99) c19 c20 dX5_fewestMoves_88 (by decide) (fun h21 => ?_) (fun h21 => ?_)
        · rw [if_neg h21] at hf
          refine aw_aload_n X 1 dX5_fewestMoves_99 rfl rfl ?_
          refine aw_aload_n X 2 dX5_fewestMoves_100 rfl rfl ?_
          refine aw_iload X 0 dX5_fewestMoves_101 rfl ?_
          obtain ⟨q22, e23, hf⟩ := z_bd hf
          refine aw_callV X [.ref (ad a1), z_i (σ 754 v3.toNat)] [] [] cX5_96 s_745 ciX5 (C_X5_reachNeighbours l D cA sa ad bs a1 h_a1 (σ 754 v3.toNat) c17 σ q22 e23) rfl ⟨(Nat.le_of_ble_eq_true rfl), (Nat.le_of_ble_eq_true rfl), (Nat.le_of_ble_eq_true rfl), (Nat.le_of_ble_eq_true rfl)⟩ rfl (Nat.le_of_ble_eq_true rfl) rfl dX5_fewestMoves_103 (fun p24 => ?_)
          refine aw_iinc X 3 [(3, z_i (z_w (v3 + 1))), (4, z_i (σ 754 v3.toNat)), (0, .ref (ad 745)), (1, .ref (ad a1))] dX5_fewestMoves_106 rfl (by decide) rfl ?_
          refine aw_goto X (tgt := 54) dX5_fewestMoves_109 (by decide) ?_
          refine aw_sub [2, 3, 0] rfl ?_
          exact ih a1 h_a1 (z_w (v3 + 1)) (z_w_in _) q22 hf
        · rw [if_pos h21] at hf
          refine aw_aload_n X 1 dX5_fewestMoves_91 rfl rfl ?_
          refine aw_getR X s_745 fX5_33 rfl dX5_fewestMoves_92 ?_
          refine aw_iload X 0 dX5_fewestMoves_95 rfl ?_
          obtain ⟨g25, hf⟩ := z_gd hf
          refine aw_iald X (j := (σ 754 v3.toNat).toNat) s_753 c17 g25.1 g25.2 rfl dX5_fewestMoves_97 (fun c26 => ?_)
          obtain rfl := Option.some.inj hf
          exact aw_iret X c26 hr rfl dX5_fewestMoves_98
set_option maxHeartbeats 4000000 in
set_option maxRecDepth 100000 in
theorem A_X5_fewestMoves_13 (X : AX p s m args meth c D cA sa bs cX5_fewestMoves 5 RX5) (hr : meth.sig.returnType = (some .int)) : ∀ (k : Nat) (a1 : Nat) (h_a1 : a1 ∈ ax_iX1) (a2 : Nat) (h_a2 : a2 ∈ ax_iX7) (v3 : Int) (c_v3 : Z_I v3) (σ : Nat → Nat → Int), f_X5_fewestMoves_13 k a1 a2 v3 σ = some q → AW p l e (ax_rm 4 0 0) s m args below meth c D cA ad bs 788 SHp 0 0 (ax_MQ below args s D cA ad bs 788 SHp 0 0 (some (z_i q.1)) (Z_I q.1) q.2) 5 13 [(0, .ref (ad 745)), (1, .ref (ad a1)), (2, .ref (ad a2)), (3, z_i v3)] [] σ := by
  intro k
  induction k with
  | zero =>
    intro a1 h_a1 a2 h_a2 v3 c_v3 σ hf
    unfold f_X5_fewestMoves_13 at hf
    cases hf
  | succ k ih =>
    intro a1 h_a1 a2 h_a2 v3 c_v3 σ hf
    unfold f_X5_fewestMoves_13 at hf
    refine aw_iload_n X 3 dX5_fewestMoves_13 rfl rfl ?_
    refine aw_sipush X dX5_fewestMoves_14 (by decide) ?_
    refine aw_icmp_ge X (tgt := 33) c_v3 (z_lit (x := 1296) (by decide)) dX5_fewestMoves_17 (by decide) (fun h5 => ?_) (fun h5 => ?_)
    · rw [if_pos h5] at hf
      refine aw_aload_n X 0 dX5_fewestMoves_33 rfl rfl ?_
      refine aw_iconst X dX5_fewestMoves_34 ?_
      refine aw_putI X s_745 pX5_85 rfl (z_lit (x := 0) (by decide)) dX5_fewestMoves_35 ?_
      refine aw_aload_n X 0 dX5_fewestMoves_38 rfl rfl ?_
      refine aw_aload_n X 0 dX5_fewestMoves_39 rfl rfl ?_
      refine aw_aload_n X 1 dX5_fewestMoves_40 rfl rfl ?_
      refine aw_aload_n X 2 dX5_fewestMoves_41 rfl rfl ?_
      refine aw_getR X (sX7_0 a2 h_a2) fX5_43 rfl dX5_fewestMoves_42 ?_
      obtain ⟨q6, e7, hf⟩ := z_bd hf
      refine aw_callV X [.ref (ad a1), .ref (ad (a2 + 1))] [.ref (ad 745)] [z_i q6, .ref (ad 745)] cX5_88 s_745 ciX5 (C_X5_numberOf l D cA sa ad bs a1 h_a1 (a2 + 1) (sX7_1 a2 h_a2) (u2 σ 745 10 0) q6 e7) rfl ⟨(Nat.le_of_ble_eq_true rfl), (Nat.le_of_ble_eq_true rfl), (Nat.le_of_ble_eq_true rfl), (Nat.le_of_ble_eq_true rfl)⟩ rfl (Nat.le_of_ble_eq_true rfl) rfl dX5_fewestMoves_45 (fun p8 => ?_)
      refine aw_iconst X dX5_fewestMoves_48 ?_
      obtain ⟨q9, e10, hf⟩ := z_bd hf
      refine aw_callV X [z_i q6, z_i 0] [] [] cX5_92 s_745 ciX5 (C_X5_reach l D cA sa ad bs q6 p8 0 (z_lit (x := 0) (by decide)) (u2 σ 745 10 0) q9 e10) rfl ⟨(Nat.le_of_ble_eq_true rfl), (Nat.le_of_ble_eq_true rfl), (Nat.le_of_ble_eq_true rfl), (Nat.le_of_ble_eq_true rfl)⟩ rfl (Nat.le_of_ble_eq_true rfl) rfl dX5_fewestMoves_49 (fun p11 => ?_)
      refine aw_iconst X dX5_fewestMoves_52 ?_
      refine aw_istore_n X [(3, z_i 0), (0, .ref (ad 745)), (1, .ref (ad a1)), (2, .ref (ad a2))] dX5_fewestMoves_53 rfl (by decide) rfl ?_
      refine aw_sub [1, 2, 0] rfl ?_
      exact A_X5_fewestMoves_54 X hr 100000 a1 h_a1 0 (z_lit (x := 0) (by decide)) q9 hf
    · rw [if_neg h5] at hf
      refine aw_aload_n X 0 dX5_fewestMoves_20 rfl rfl ?_
      refine aw_getR X s_745 fX5_33 rfl dX5_fewestMoves_21 ?_
      refine aw_iload_n X 3 dX5_fewestMoves_24 rfl rfl ?_
      refine aw_iconst X dX5_fewestMoves_25 ?_
      obtain ⟨g12, hf⟩ := z_gd hf
      refine aw_iast X (j := v3.toNat) s_753 c_v3 g12.1 g12.2 rfl (z_lit (x := (-1)) (by decide)) dX5_fewestMoves_26 ?_
      refine aw_iinc X 3 [(3, z_i (z_w (v3 + 1))), (0, .ref (ad 745)), (1, .ref (ad a1)), (2, .ref (ad a2))] dX5_fewestMoves_27 rfl (by decide) rfl ?_
      refine aw_goto X (tgt := 13) dX5_fewestMoves_30 (by decide) ?_
      refine aw_sub [1, 2, 3, 0] rfl ?_
      exact ih a1 h_a1 a2 h_a2 (z_w (v3 + 1)) (z_w_in _) (u2 σ 753 v3.toNat (-1)) hf
end S_X5_fewestMoves
set_option maxHeartbeats 4000000 in
set_option maxRecDepth 100000 in
theorem C_X5_fewestMoves (l : Launch) (D : va_G) (cA : Nat → ClassId) (sa ad : Nat → Nat) (bs : Nat) (a1 : Nat) (h_a1 : a1 ∈ ax_iX1) (a2 : Nat) (h_a2 : a2 ∈ ax_iX7) (σ : Nat → Nat → Int) (q : (Int × (Nat → Nat → Int))) (hf : f_X5_fewestMoves a1 a2 σ = some q) : AM l D cA sa ad bs 788 SHp yX5_fewestMoves cX5_fewestMoves 5 (some .int) 4 [.ref (ad 745), .ref (ad a1), .ref (ad a2)] σ (some (z_i q.1)) (Z_I q.1) q.2 := by
  refine am_of (by decide +kernel) (Nat.le_of_ble_eq_true rfl) (fun p e s m args below meth c X hr => ?_)
  refine aw_lv (lv' := [(0, .ref (ad 745)), (1, .ref (ad a1)), (2, .ref (ad a2))]) rfl ?_
  unfold f_X5_fewestMoves at hf
  refine aw_aload_n X 0 dX5_fewestMoves_0 rfl rfl ?_
  refine aw_aload_n X 1 dX5_fewestMoves_1 rfl rfl ?_
  refine aw_aload_n X 2 dX5_fewestMoves_2 rfl rfl ?_
  obtain ⟨q1, e2, hf⟩ := z_bd hf
  refine aw_callV X [.ref (ad a1), .ref (ad a2)] [] [z_i q1.1] cX5_81 s_745 ciX5 (C_X5_findBest l D cA sa ad bs a1 h_a1 a2 h_a2 σ q1 e2) rfl ⟨(Nat.le_of_ble_eq_true rfl), (Nat.le_of_ble_eq_true rfl), (Nat.le_of_ble_eq_true rfl), (Nat.le_of_ble_eq_true rfl)⟩ rfl (Nat.le_of_ble_eq_true rfl) rfl dX5_fewestMoves_3 (fun p3 => ?_)
  refine aw_if_ne X (tgt := 11) (z_zI p3) dX5_fewestMoves_6 (by decide) (fun h4 => ?_) (fun h4 => ?_)
  · rw [if_neg h4] at hf
    refine aw_iconst X dX5_fewestMoves_11 ?_
    refine aw_istore_n X [(3, z_i 0), (0, .ref (ad 745)), (1, .ref (ad a1)), (2, .ref (ad a2))] dX5_fewestMoves_12 rfl (by decide) rfl ?_
    refine aw_sub [1, 2, 3, 0] rfl ?_
    exact A_X5_fewestMoves_13 X hr 100000 a1 h_a1 a2 h_a2 0 (z_lit (x := 0) (by decide)) q1.2 hf
  · rw [if_pos h4] at hf
    refine aw_iconst X dX5_fewestMoves_9 ?_
    obtain rfl := Option.some.inj hf
    exact aw_iret X (z_lit (x := (-1)) (by decide)) hr rfl dX5_fewestMoves_10
-- SpeedDesk$Planner.partOf(LSpeedDesk$Chip;LSpeedDesk$State;II)I
section S_X5_partOf
variable {p : Program} {l : Launch} {e : Env} {s : State} {m : MethodId} {args : Array Value} {below : List Frame} {meth : Method} {c : Code} {D : va_G} {cA : Nat → ClassId} {sa ad : Nat → Nat} {bs : Nat} {q : Int}
set_option maxHeartbeats 4000000 in
set_option maxRecDepth 100000 in
theorem A_X5_partOf_41 (X : AX p s m args meth c D cA sa bs cX5_partOf 10 RX5) (hr : meth.sig.returnType = (some .int)) (σ : Nat → Nat → Int) (K8 : Nat → Nat → Int → Int → Int → Int → (Nat → Nat → Int) → Option Int) (hK8 : ∀ (a1 : Nat) (h_a1 : a1 ∈ ax_iX1) (a2 : Nat) (h_a2 : a2 ∈ ax_iX7) (v3 : Int) (c_v3 : Z_I v3) (v4 : Int) (c_v4 : Z_I v4) (v5 : Int) (c_v5 : Z_L v5) (v7 : Int) (c_v7 : Z_I v7), K8 a1 a2 v3 v4 v5 v7 σ = some q → AW p l e (ax_rm 2 0 0) s m args below meth c D cA ad bs 788 SHp 0 0 (ax_MQ below args s D cA ad bs 788 SHp 0 0 (some (z_i q)) (Z_I q) σ) 10 8 [(1, .ref (ad a1)), (2, .ref (ad a2)), (3, z_i v3), (4, z_i v4), (5, z_v v5), (7, z_i v7)] [] σ) (a1 : Nat) (h_a1 : a1 ∈ ax_iX1) (a2 : Nat) (h_a2 : a2 ∈ ax_iX7) (v3 : Int) (c_v3 : Z_I v3) (v4 : Int) (c_v4 : Z_I v4) (v5 : Int) (c_v5 : Z_L v5) (v7 : Int) (c_v7 : Z_I v7) (t0 : Int) (c_t0 : Z_L t0) (hf : f_X5_partOf_41 K8 a1 a2 v3 v4 v5 v7 t0 σ = some q) : AW p l e (ax_rm 2 0 0) s m args below meth c D cA ad bs 788 SHp 0 0 (ax_MQ below args s D cA ad bs 788 SHp 0 0 (some (z_i q)) (Z_I q) σ) 10 41 [(1, .ref (ad a1)), (2, .ref (ad a2)), (3, z_i v3), (4, z_i v4), (5, z_v v5), (7, z_i v7)] [z_v t0] σ := by
  unfold f_X5_partOf_41 at hf
  refine aw_lstore X [(8, z_v t0), (1, .ref (ad a1)), (2, .ref (ad a2)), (3, z_i v3), (4, z_i v4), (5, z_v v5), (7, z_i v7)] dX5_partOf_41 (by decide) rfl ?_
  refine aw_iload_n X 3 dX5_partOf_43 rfl rfl ?_
  refine aw_iload X 6 dX5_partOf_44 rfl ?_
  obtain ⟨q7, e8, hf⟩ := z_bd hf
  refine aw_callN X [z_i v3, z_i v7] [] [z_i q7] cX5_168 (C_X11_bitOf l D cA sa ad bs v3 c_v3 v7 c_v7 σ q7 e8) rfl ⟨(Nat.le_of_ble_eq_true rfl), (Nat.le_of_ble_eq_true rfl), (Nat.le_of_ble_eq_true rfl), (Nat.le_of_ble_eq_true rfl)⟩ rfl (Nat.le_of_ble_eq_true rfl) rfl dX5_partOf_46 (fun p9 => ?_)
  refine aw_iconst X dX5_partOf_49 ?_
  refine aw_icmp_ne X (tgt := 58) p9 (z_lit (x := 1) (by decide)) dX5_partOf_50 (by decide) (fun h10 => ?_) (fun h10 => ?_)
  · simp only [if_neg h10] at hf
    refine aw_lload X 5 dX5_partOf_58 rfl ?_
    refine aw_lload X 0 dX5_partOf_60 rfl ?_
    refine aw_lsub X dX5_partOf_62 ?_
    refine aw_lstore X [(5, z_v (z_l (v5 - t0))), (8, z_v t0), (1, .ref (ad a1)), (2, .ref (ad a2)), (3, z_i v3), (4, z_i v4), (7, z_i v7)] dX5_partOf_63 (by decide) rfl ?_
    refine aw_iinc X 6 [(7, z_i (z_w (v7 + 1))), (5, z_v (z_l (v5 - t0))), (8, z_v t0), (1, .ref (ad a1)), (2, .ref (ad a2)), (3, z_i v3), (4, z_i v4)] dX5_partOf_65 rfl (by decide) rfl ?_
    refine aw_goto X (tgt := 8) dX5_partOf_68 (by decide) ?_
    refine aw_sub [3, 4, 5, 6, 1, 0] rfl ?_
    exact hK8 a1 h_a1 a2 h_a2 v3 c_v3 v4 c_v4 (z_l (v5 - t0)) (z_l_in _) (z_w (v7 + 1)) (z_w_in _) hf
  · simp only [if_pos h10] at hf
    refine aw_lload X 0 dX5_partOf_53 rfl ?_
    refine aw_goto X (tgt := 63) dX5_partOf_55 (by decide) ?_
    refine aw_lstore X [(5, z_v t0), (8, z_v t0), (1, .ref (ad a1)), (2, .ref (ad a2)), (3, z_i v3), (4, z_i v4), (7, z_i v7)] dX5_partOf_63 (by decide) rfl ?_
    refine aw_iinc X 6 [(7, z_i (z_w (v7 + 1))), (5, z_v t0), (8, z_v t0), (1, .ref (ad a1)), (2, .ref (ad a2)), (3, z_i v3), (4, z_i v4)] dX5_partOf_65 rfl (by decide) rfl ?_
    refine aw_goto X (tgt := 8) dX5_partOf_68 (by decide) ?_
    refine aw_sub [3, 4, 5, 6, 1, 0] rfl ?_
    exact hK8 a1 h_a1 a2 h_a2 v3 c_v3 v4 c_v4 t0 c_t0 (z_w (v7 + 1)) (z_w_in _) hf
set_option maxHeartbeats 4000000 in
set_option maxRecDepth 100000 in
theorem A_X5_partOf_8 (X : AX p s m args meth c D cA sa bs cX5_partOf 10 RX5) (hr : meth.sig.returnType = (some .int)) (σ : Nat → Nat → Int) : ∀ (k : Nat) (a1 : Nat) (h_a1 : a1 ∈ ax_iX1) (a2 : Nat) (h_a2 : a2 ∈ ax_iX7) (v3 : Int) (c_v3 : Z_I v3) (v4 : Int) (c_v4 : Z_I v4) (v5 : Int) (c_v5 : Z_L v5) (v7 : Int) (c_v7 : Z_I v7), f_X5_partOf_8 k a1 a2 v3 v4 v5 v7 σ = some q → AW p l e (ax_rm 2 0 0) s m args below meth c D cA ad bs 788 SHp 0 0 (ax_MQ below args s D cA ad bs 788 SHp 0 0 (some (z_i q)) (Z_I q) σ) 10 8 [(1, .ref (ad a1)), (2, .ref (ad a2)), (3, z_i v3), (4, z_i v4), (5, z_v v5), (7, z_i v7)] [] σ := by
  intro k
  induction k with
  | zero =>
    intro a1 h_a1 a2 h_a2 v3 c_v3 v4 c_v4 v5 c_v5 v7 c_v7 hf
    unfold f_X5_partOf_8 at hf
    cases hf
  | succ k ih =>
    intro a1 h_a1 a2 h_a2 v3 c_v3 v4 c_v4 v5 c_v5 v7 c_v7 hf
    unfold f_X5_partOf_8 at hf
    refine aw_iload X 5 dX5_partOf_8 rfl ?_
    refine aw_aload_n X 0 dX5_partOf_10 rfl rfl ?_
    refine aw_getI X (sX1_0 a1 h_a1) fX5_69 rfl dX5_partOf_11 (fun c1 => ?_)
    refine aw_icmp_ge X (tgt := 71) c_v7 c1 dX5_partOf_14 (by decide) (fun h2 => ?_) (fun h2 => ?_)
    · rw [if_pos h2] at hf
      refine aw_lload X 4 dX5_partOf_71 rfl ?_
      refine aw_l2i X dX5_partOf_73 ?_
      obtain rfl := Option.some.inj hf
      exact aw_iret X (z_w_in _) hr rfl dX5_partOf_74
    · rw [if_neg h2] at hf
      refine aw_aload_n X 1 dX5_partOf_17 rfl rfl ?_
      refine aw_iload X 5 dX5_partOf_18 rfl ?_
      obtain ⟨q3, e4, hf⟩ := z_bd hf
      refine aw_callV X [z_i v7] [] [z_i q3] cX5_118 (sX7_0 a2 h_a2) ciX7 (C_X7_isStopped l D cA sa ad bs a2 h_a2 v7 c_v7 σ q3 e4) rfl ⟨(Nat.le_of_ble_eq_true rfl), (Nat.le_of_ble_eq_true rfl), (Nat.le_of_ble_eq_true rfl), (Nat.le_of_ble_eq_true rfl)⟩ rfl (Nat.le_of_ble_eq_true rfl) rfl dX5_partOf_20 (fun p5 => ?_)
      refine aw_if_eq X (tgt := 31) (z_zI p5) dX5_partOf_23 (by decide) (fun h6 => ?_) (fun h6 => ?_)
      · simp only [if_pos h6] at hf
        refine aw_lload X 4 dX5_partOf_31 rfl ?_
        refine aw_iload X 3 dX5_partOf_33 rfl ?_
        refine aw_i2l X c_v4 dX5_partOf_35 ?_
        refine aw_lmul X dX5_partOf_36 ?_
        refine aw_ldc2 X (x := 100) dX5_partOf_37 kX5_166 (by decide) ?_
        refine aw_ldiv X (z_l_in _) (z_litL (x := 100) (by decide)) (by decide) dX5_partOf_40 ?_
        exact A_X5_partOf_41 X hr σ (f_X5_partOf_8 k) ih a1 h_a1 a2 h_a2 v3 c_v3 v4 c_v4 v5 c_v5 v7 c_v7 (z_l (Int.tdiv (z_l (v5 * v4)) 100)) (z_l_in _) hf
      · simp only [if_neg h6] at hf
        refine aw_lload X 4 dX5_partOf_26 rfl ?_
        refine aw_goto X (tgt := 41) dX5_partOf_28 (by decide) ?_
        exact A_X5_partOf_41 X hr σ (f_X5_partOf_8 k) ih a1 h_a1 a2 h_a2 v3 c_v3 v4 c_v4 v5 c_v5 v7 c_v7 v5 c_v5 hf
end S_X5_partOf
set_option maxHeartbeats 4000000 in
set_option maxRecDepth 100000 in
theorem C_X5_partOf (l : Launch) (D : va_G) (cA : Nat → ClassId) (sa ad : Nat → Nat) (bs : Nat) (a1 : Nat) (h_a1 : a1 ∈ ax_iX1) (a2 : Nat) (h_a2 : a2 ∈ ax_iX7) (v3 : Int) (c_v3 : Z_I v3) (v4 : Int) (c_v4 : Z_I v4) (σ : Nat → Nat → Int) (q : Int) (hf : f_X5_partOf a1 a2 v3 v4 σ = some q) : AM l D cA sa ad bs 788 SHp yX5_partOf cX5_partOf 10 (some .int) 2 [.ref (ad 745), .ref (ad a1), .ref (ad a2), z_i v3, z_i v4] σ (some (z_i q)) (Z_I q) σ := by
  refine am_of (by decide +kernel) (Nat.le_of_ble_eq_true rfl) (fun p e s m args below meth c X hr => ?_)
  refine aw_lv (lv' := [(0, .ref (ad 745)), (1, .ref (ad a1)), (2, .ref (ad a2)), (3, z_i v3), (4, z_i v4)]) rfl ?_
  unfold f_X5_partOf at hf
  refine aw_ldc2 X (x := 1000000000) dX5_partOf_0 kX5_164 (by decide) ?_
  refine aw_lstore X [(5, z_v 1000000000), (0, .ref (ad 745)), (1, .ref (ad a1)), (2, .ref (ad a2)), (3, z_i v3), (4, z_i v4)] dX5_partOf_3 (by decide) rfl ?_
  refine aw_iconst X dX5_partOf_5 ?_
  refine aw_istore X [(7, z_i 0), (5, z_v 1000000000), (0, .ref (ad 745)), (1, .ref (ad a1)), (2, .ref (ad a2)), (3, z_i v3), (4, z_i v4)] dX5_partOf_6 (by decide) rfl ?_
  refine aw_sub [3, 4, 5, 6, 1, 0] rfl ?_
  exact A_X5_partOf_8 X hr σ 100000 a1 h_a1 a2 h_a2 v3 c_v3 v4 c_v4 1000000000 (z_litL (x := 1000000000) (by decide)) 0 (z_lit (x := 0) (by decide)) hf
-- SpeedDesk$Planner.someWayFits(LSpeedDesk$Chip;LSpeedDesk$State;I)Z
section S_X5_someWayFits
variable {p : Program} {l : Launch} {e : Env} {s : State} {m : MethodId} {args : Array Value} {below : List Frame} {meth : Method} {c : Code} {D : va_G} {cA : Nat → ClassId} {sa ad : Nat → Nat} {bs : Nat} {q : (Int × (Nat → Nat → Int))}
set_option maxHeartbeats 4000000 in
set_option maxRecDepth 100000 in
theorem A_X5_someWayFits_61 (X : AX p s m args meth c D cA sa bs cX5_someWayFits 6 RX5) (hr : meth.sig.returnType = (some .boolean)) : ∀ (k : Nat) (a1 : Nat) (h_a1 : a1 ∈ ax_iX1) (v4 : Int) (c_v4 : Z_I v4) (v5 : Int) (c_v5 : Z_I v5) (σ : Nat → Nat → Int), f_X5_someWayFits_61 k a1 v4 v5 σ = some q → AW p l e (ax_rm 3 0 0) s m args below meth c D cA ad bs 788 SHp 0 0 (ax_MQ below args s D cA ad bs 788 SHp 0 0 (some (z_i q.1)) (q.1 = 0 ∨ q.1 = 1) q.2) 6 61 [(0, .ref (ad 745)), (1, .ref (ad a1)), (4, z_i v4), (5, z_i v5)] [] σ := by
  intro k
  induction k with
  | zero =>
    intro a1 h_a1 v4 c_v4 v5 c_v5 σ hf
    unfold f_X5_someWayFits_61 at hf
    cases hf
  | succ k ih =>
    intro a1 h_a1 v4 c_v4 v5 c_v5 σ hf
    unfold f_X5_someWayFits_61 at hf
    refine aw_iload X 3 dX5_someWayFits_61 rfl ?_
    refine aw_iload X 2 dX5_someWayFits_63 rfl ?_
    refine aw_icmp_ge X (tgt := 92) c_v5 c_v4 dX5_someWayFits_65 (by decide) (fun h18 => ?_) (fun h18 => ?_)
    · rw [if_pos h18] at hf
      refine aw_iconst X dX5_someWayFits_92 ?_
      obtain rfl := Option.some.inj hf
      exact aw_zret X (Or.inl rfl) hr (Or.inl rfl) rfl dX5_someWayFits_93
    · rw [if_neg h18] at hf
      refine aw_aload_n X 0 dX5_someWayFits_68 rfl rfl ?_
      refine aw_aload_n X 1 dX5_someWayFits_69 rfl rfl ?_
      refine aw_iload X 3 dX5_someWayFits_70 rfl ?_
      obtain ⟨q19, e20, hf⟩ := z_bd hf
      refine aw_callV X [.ref (ad a1), z_i v5] [] [] cX5_65 s_745 ciX5 (C_X5_spread l D cA sa ad bs a1 h_a1 v5 c_v5 σ q19 e20) rfl ⟨(Nat.le_of_ble_eq_true rfl), (Nat.le_of_ble_eq_true rfl), (Nat.le_of_ble_eq_true rfl), (Nat.le_of_ble_eq_true rfl)⟩ rfl (Nat.le_of_ble_eq_true rfl) rfl dX5_someWayFits_72 (fun p21 => ?_)
      refine aw_aload_n X 0 dX5_someWayFits_75 rfl rfl ?_
      refine aw_aload_n X 1 dX5_someWayFits_76 rfl rfl ?_
      obtain ⟨q22, e23, hf⟩ := z_bd hf
      refine aw_callV X [.ref (ad a1)] [] [z_i q22.1] cX5_54 s_745 ciX5 (C_X5_priceOf l D cA sa ad bs a1 h_a1 q19 q22 e23) rfl ⟨(Nat.le_of_ble_eq_true rfl), (Nat.le_of_ble_eq_true rfl), (Nat.le_of_ble_eq_true rfl), (Nat.le_of_ble_eq_true rfl)⟩ rfl (Nat.le_of_ble_eq_true rfl) rfl dX5_someWayFits_77 (fun p24 => ?_)
      refine aw_iconst X dX5_someWayFits_80 ?_
      refine aw_icmp_eq X (tgt := 86) p24 (z_lit (x := (-1)) (by decide)) dX5_someWayFits_81 (by decide) (fun h25 => ?_) (fun h25 => ?_)
      · rw [if_pos h25] at hf
        refine aw_iinc X 3 [(5, z_i (z_w (v5 + 1))), (0, .ref (ad 745)), (1, .ref (ad a1)), (4, z_i v4)] dX5_someWayFits_86 rfl (by decide) rfl ?_
        refine aw_goto X (tgt := 61) dX5_someWayFits_89 (by decide) ?_
        refine aw_sub [1, 2, 3, 0] rfl ?_
        exact ih a1 h_a1 v4 c_v4 (z_w (v5 + 1)) (z_w_in _) q22.2 hf
      · rw [if_neg h25] at hf
        refine aw_iconst X dX5_someWayFits_84 ?_
        obtain rfl := Option.some.inj hf
        exact aw_zret X (Or.inr rfl) hr (Or.inr rfl) rfl dX5_someWayFits_85
set_option maxHeartbeats 4000000 in
set_option maxRecDepth 100000 in
theorem A_X5_someWayFits_9 (X : AX p s m args meth c D cA sa bs cX5_someWayFits 6 RX5) (hr : meth.sig.returnType = (some .boolean)) : ∀ (k : Nat) (a1 : Nat) (h_a1 : a1 ∈ ax_iX1) (v3 : Int) (c_v3 : Z_I v3) (v4 : Int) (c_v4 : Z_I v4) (σ : Nat → Nat → Int), f_X5_someWayFits_9 k a1 v3 v4 σ = some q → AW p l e (ax_rm 3 0 0) s m args below meth c D cA ad bs 788 SHp 0 0 (ax_MQ below args s D cA ad bs 788 SHp 0 0 (some (z_i q.1)) (q.1 = 0 ∨ q.1 = 1) q.2) 6 9 [(0, .ref (ad 745)), (1, .ref (ad a1)), (3, z_i v3), (4, z_i v4)] [] σ := by
  intro k
  induction k with
  | zero =>
    intro a1 h_a1 v3 c_v3 v4 c_v4 σ hf
    unfold f_X5_someWayFits_9 at hf
    cases hf
  | succ k ih =>
    intro a1 h_a1 v3 c_v3 v4 c_v4 σ hf
    unfold f_X5_someWayFits_9 at hf
    refine aw_iload X 3 dX5_someWayFits_9 rfl ?_
    refine aw_aload_n X 1 dX5_someWayFits_11 rfl rfl ?_
    refine aw_getI X (sX1_0 a1 h_a1) fX5_69 rfl dX5_someWayFits_12 (fun c4 => ?_)
    refine aw_icmp_ge X (tgt := 51) c_v4 c4 dX5_someWayFits_15 (by decide) (fun h5 => ?_) (fun h5 => ?_)
    · rw [if_pos h5] at hf
      refine aw_aload_n X 0 dX5_someWayFits_51 rfl rfl ?_
      refine aw_aload_n X 1 dX5_someWayFits_52 rfl rfl ?_
      obtain ⟨q6, e7, hf⟩ := z_bd hf
      refine aw_callV X [.ref (ad a1)] [] [z_i q6] cX5_62 s_745 ciX5 (C_X5_waysOf l D cA sa ad bs a1 h_a1 σ q6 e7) rfl ⟨(Nat.le_of_ble_eq_true rfl), (Nat.le_of_ble_eq_true rfl), (Nat.le_of_ble_eq_true rfl), (Nat.le_of_ble_eq_true rfl)⟩ rfl (Nat.le_of_ble_eq_true rfl) rfl dX5_someWayFits_53 (fun p8 => ?_)
      refine aw_istore X [(4, z_i q6), (0, .ref (ad 745)), (1, .ref (ad a1)), (3, z_i v3)] dX5_someWayFits_56 (by decide) rfl ?_
      refine aw_iconst X dX5_someWayFits_58 ?_
      refine aw_istore X [(5, z_i 0), (4, z_i q6), (0, .ref (ad 745)), (1, .ref (ad a1)), (3, z_i v3)] dX5_someWayFits_59 (by decide) rfl ?_
      refine aw_sub [2, 3, 1, 0] rfl ?_
      exact A_X5_someWayFits_61 X hr 100000 a1 h_a1 q6 p8 0 (z_lit (x := 0) (by decide)) σ hf
    · rw [if_neg h5] at hf
      refine aw_aload_n X 0 dX5_someWayFits_18 rfl rfl ?_
      refine aw_getR X s_745 fX5_18 rfl dX5_someWayFits_19 ?_
      refine aw_iload X 3 dX5_someWayFits_22 rfl ?_
      refine aw_iload_n X 2 dX5_someWayFits_24 rfl rfl ?_
      refine aw_iload X 3 dX5_someWayFits_25 rfl ?_
      obtain ⟨q9, e10, hf⟩ := z_bd hf
      refine aw_callN X [z_i v3, z_i v4] [z_i v4, .ref (ad 748)] [z_i q9, z_i v4, .ref (ad 748)] cX5_168 (C_X11_bitOf l D cA sa ad bs v3 c_v3 v4 c_v4 σ q9 e10) rfl ⟨(Nat.le_of_ble_eq_true rfl), (Nat.le_of_ble_eq_true rfl), (Nat.le_of_ble_eq_true rfl), (Nat.le_of_ble_eq_true rfl)⟩ rfl (Nat.le_of_ble_eq_true rfl) rfl dX5_someWayFits_27 (fun p11 => ?_)
      refine aw_iconst X dX5_someWayFits_30 ?_
      refine aw_icmp_ne X (tgt := 38) p11 (z_lit (x := 1) (by decide)) dX5_someWayFits_31 (by decide) (fun h12 => ?_) (fun h12 => ?_)
      · rw [if_neg h12] at hf
        refine aw_aload_n X 1 dX5_someWayFits_38 rfl rfl ?_
        refine aw_iload X 3 dX5_someWayFits_39 rfl ?_
        obtain ⟨q13, e14, hf⟩ := z_bd hf
        refine aw_callV X [z_i v4] [z_i v4, .ref (ad 748)] [z_i q13, z_i v4, .ref (ad 748)] cX5_122 (sX1_0 a1 h_a1) ciX1 (C_X1_shareOf l D cA sa ad bs a1 h_a1 v4 c_v4 σ q13 e14) rfl ⟨(Nat.le_of_ble_eq_true rfl), (Nat.le_of_ble_eq_true rfl), (Nat.le_of_ble_eq_true rfl), (Nat.le_of_ble_eq_true rfl)⟩ rfl (Nat.le_of_ble_eq_true rfl) rfl dX5_someWayFits_41 (fun p15 => ?_)
        obtain ⟨g16, hf⟩ := z_gd hf
        refine aw_iast X (j := v4.toNat) s_748 c_v4 g16.1 g16.2 rfl p15 dX5_someWayFits_44 ?_
        refine aw_iinc X 3 [(4, z_i (z_w (v4 + 1))), (0, .ref (ad 745)), (1, .ref (ad a1)), (3, z_i v3)] dX5_someWayFits_45 rfl (by decide) rfl ?_
        refine aw_goto X (tgt := 9) dX5_someWayFits_48 (by decide) ?_
        refine aw_sub [1, 2, 3, 0] rfl ?_
        exact ih a1 h_a1 v3 c_v3 (z_w (v4 + 1)) (z_w_in _) (u2 σ 748 v4.toNat q13) hf
      · rw [if_pos h12] at hf
        refine aw_iconst X dX5_someWayFits_34 ?_
        refine aw_goto X (tgt := 44) dX5_someWayFits_35 (by decide) ?_
        obtain ⟨g17, hf⟩ := z_gd hf
        refine aw_iast X (j := v4.toNat) s_748 c_v4 g17.1 g17.2 rfl (z_lit (x := 0) (by decide)) dX5_someWayFits_44 ?_
        refine aw_iinc X 3 [(4, z_i (z_w (v4 + 1))), (0, .ref (ad 745)), (1, .ref (ad a1)), (3, z_i v3)] dX5_someWayFits_45 rfl (by decide) rfl ?_
        refine aw_goto X (tgt := 9) dX5_someWayFits_48 (by decide) ?_
        refine aw_sub [1, 2, 3, 0] rfl ?_
        exact ih a1 h_a1 v3 c_v3 (z_w (v4 + 1)) (z_w_in _) (u2 σ 748 v4.toNat 0) hf
end S_X5_someWayFits
set_option maxHeartbeats 4000000 in
set_option maxRecDepth 100000 in
theorem C_X5_someWayFits (l : Launch) (D : va_G) (cA : Nat → ClassId) (sa ad : Nat → Nat) (bs : Nat) (a1 : Nat) (h_a1 : a1 ∈ ax_iX1) (a2 : Nat) (h_a2 : a2 ∈ ax_iX7) (v3 : Int) (c_v3 : Z_I v3) (σ : Nat → Nat → Int) (q : (Int × (Nat → Nat → Int))) (hf : f_X5_someWayFits a1 a2 v3 σ = some q) : AM l D cA sa ad bs 788 SHp yX5_someWayFits cX5_someWayFits 6 (some .boolean) 3 [.ref (ad 745), .ref (ad a1), .ref (ad a2), z_i v3] σ (some (z_i q.1)) (q.1 = 0 ∨ q.1 = 1) q.2 := by
  refine am_of (by decide +kernel) (Nat.le_of_ble_eq_true rfl) (fun p e s m args below meth c X hr => ?_)
  refine aw_lv (lv' := [(0, .ref (ad 745)), (1, .ref (ad a1)), (2, .ref (ad a2)), (3, z_i v3)]) rfl ?_
  unfold f_X5_someWayFits at hf
  refine aw_aload_n X 0 dX5_someWayFits_0 rfl rfl ?_
  refine aw_aload_n X 1 dX5_someWayFits_1 rfl rfl ?_
  refine aw_aload_n X 2 dX5_someWayFits_2 rfl rfl ?_
  obtain ⟨q1, e2, hf⟩ := z_bd hf
  refine aw_callV X [.ref (ad a1), .ref (ad a2)] [] [] cX5_39 s_745 ciX5 (C_X5_look l D cA sa ad bs a1 h_a1 a2 h_a2 σ q1 e2) rfl ⟨(Nat.le_of_ble_eq_true rfl), (Nat.le_of_ble_eq_true rfl), (Nat.le_of_ble_eq_true rfl), (Nat.le_of_ble_eq_true rfl)⟩ rfl (Nat.le_of_ble_eq_true rfl) rfl dX5_someWayFits_3 (fun p3 => ?_)
  refine aw_iconst X dX5_someWayFits_6 ?_
  refine aw_istore X [(4, z_i 0), (0, .ref (ad 745)), (1, .ref (ad a1)), (2, .ref (ad a2)), (3, z_i v3)] dX5_someWayFits_7 (by decide) rfl ?_
  refine aw_sub [1, 2, 4, 0] rfl ?_
  exact A_X5_someWayFits_9 X hr 100000 a1 h_a1 v3 c_v3 0 (z_lit (x := 0) (by decide)) q1 hf
-- SpeedDesk$Planner.oddsBy(LSpeedDesk$Chip;LSpeedDesk$State;I)I
section S_X5_oddsBy
variable {p : Program} {l : Launch} {e : Env} {s : State} {m : MethodId} {args : Array Value} {below : List Frame} {meth : Method} {c : Code} {D : va_G} {cA : Nat → ClassId} {sa ad : Nat → Nat} {bs : Nat} {q : (Int × (Nat → Nat → Int))}
set_option maxHeartbeats 4000000 in
set_option maxRecDepth 100000 in
theorem A_X5_oddsBy_6 (X : AX p s m args meth c D cA sa bs cX5_oddsBy 7 RX5) (hr : meth.sig.returnType = (some .int)) : ∀ (k : Nat) (a1 : Nat) (h_a1 : a1 ∈ ax_iX1) (a2 : Nat) (h_a2 : a2 ∈ ax_iX7) (v3 : Int) (c_v3 : Z_I v3) (v4 : Int) (c_v4 : Z_I v4) (v5 : Int) (c_v5 : Z_I v5) (σ : Nat → Nat → Int), f_X5_oddsBy_6 k a1 a2 v3 v4 v5 σ = some q → AW p l e (ax_rm 4 0 0) s m args below meth c D cA ad bs 788 SHp 0 0 (ax_MQ below args s D cA ad bs 788 SHp 0 0 (some (z_i q.1)) (Z_I q.1) q.2) 7 6 [(0, .ref (ad 745)), (1, .ref (ad a1)), (2, .ref (ad a2)), (3, z_i v3), (4, z_i v4), (5, z_i v5)] [] σ := by
  intro k
  induction k with
  | zero =>
    intro a1 h_a1 a2 h_a2 v3 c_v3 v4 c_v4 v5 c_v5 σ hf
    unfold f_X5_oddsBy_6 at hf
    cases hf
  | succ k ih =>
    intro a1 h_a1 a2 h_a2 v3 c_v3 v4 c_v4 v5 c_v5 σ hf
    unfold f_X5_oddsBy_6 at hf
    refine aw_iload X 5 dX5_oddsBy_6 rfl ?_
    refine aw_iconst X dX5_oddsBy_8 ?_
    refine aw_aload_n X 1 dX5_oddsBy_9 rfl rfl ?_
    refine aw_getI X (sX1_0 a1 h_a1) fX5_69 rfl dX5_oddsBy_10 (fun c1 => ?_)
    refine aw_ishl X dX5_oddsBy_13 ?_
    refine aw_icmp_ge X (tgt := 57) c_v5 (z_shl_in _ _) dX5_oddsBy_14 (by decide) (fun h2 => ?_) (fun h2 => ?_)
    · rw [if_pos h2] at hf
      refine aw_iload X 4 dX5_oddsBy_57 rfl ?_
      obtain rfl := Option.some.inj hf
      exact aw_iret X c_v4 hr rfl dX5_oddsBy_59
    · rw [if_neg h2] at hf
      refine aw_aload_n X 0 dX5_oddsBy_17 rfl rfl ?_
      refine aw_aload_n X 1 dX5_oddsBy_18 rfl rfl ?_
      refine aw_aload_n X 2 dX5_oddsBy_19 rfl rfl ?_
      refine aw_iload X 5 dX5_oddsBy_20 rfl ?_
      refine aw_iload_n X 3 dX5_oddsBy_22 rfl rfl ?_
      obtain ⟨q3, e4, hf⟩ := z_bd hf
      refine aw_callV X [.ref (ad a1), .ref (ad a2), z_i v5, z_i v3] [] [z_i q3] cX5_99 s_745 ciX5 (C_X5_partOf l D cA sa ad bs a1 h_a1 a2 h_a2 v5 c_v5 v3 c_v3 σ q3 e4) rfl ⟨(Nat.le_of_ble_eq_true rfl), (Nat.le_of_ble_eq_true rfl), (Nat.le_of_ble_eq_true rfl), (Nat.le_of_ble_eq_true rfl)⟩ rfl (Nat.le_of_ble_eq_true rfl) rfl dX5_oddsBy_23 (fun p5 => ?_)
      refine aw_istore X [(6, z_i q3), (0, .ref (ad 745)), (1, .ref (ad a1)), (2, .ref (ad a2)), (3, z_i v3), (4, z_i v4), (5, z_i v5)] dX5_oddsBy_26 (by decide) rfl ?_
      refine aw_iload X 0 dX5_oddsBy_28 rfl ?_
      refine aw_if_le X (tgt := 51) p5 dX5_oddsBy_30 (by decide) (fun h6 => ?_) (fun h6 => ?_)
      · rw [if_pos h6] at hf
        refine aw_iinc X 6 [(5, z_i (z_w (v5 + 1))), (6, z_i q3), (0, .ref (ad 745)), (1, .ref (ad a1)), (2, .ref (ad a2)), (3, z_i v3), (4, z_i v4)] dX5_oddsBy_51 rfl (by decide) rfl ?_
        refine aw_goto X (tgt := 6) dX5_oddsBy_54 (by decide) ?_
        refine aw_sub [2, 3, 4, 5, 6, 0] rfl ?_
        exact ih a1 h_a1 a2 h_a2 v3 c_v3 v4 c_v4 (z_w (v5 + 1)) (z_w_in _) σ hf
      · rw [if_neg h6] at hf
        refine aw_aload_n X 1 dX5_oddsBy_33 rfl rfl ?_
        refine aw_aload_n X 2 dX5_oddsBy_34 rfl rfl ?_
        refine aw_aload_n X 3 dX5_oddsBy_35 rfl rfl ?_
        refine aw_iload X 6 dX5_oddsBy_36 rfl ?_
        obtain ⟨q7, e8, hf⟩ := z_bd hf
        refine aw_callV X [.ref (ad a1), .ref (ad a2), z_i v5] [] [z_i q7.1] cX5_103 s_745 ciX5 (C_X5_someWayFits l D cA sa ad bs a1 h_a1 a2 h_a2 v5 c_v5 σ q7 e8) rfl ⟨(Nat.le_of_ble_eq_true rfl), (Nat.le_of_ble_eq_true rfl), (Nat.le_of_ble_eq_true rfl), (Nat.le_of_ble_eq_true rfl)⟩ rfl (Nat.le_of_ble_eq_true rfl) rfl dX5_oddsBy_38 (fun p9 => ?_)
        refine aw_if_eq X (tgt := 51) (z_zI p9) dX5_oddsBy_41 (by decide) (fun h10 => ?_) (fun h10 => ?_)
        · simp only [if_pos h10] at hf
          refine aw_iinc X 6 [(5, z_i (z_w (v5 + 1))), (6, z_i q3), (0, .ref (ad 745)), (1, .ref (ad a1)), (2, .ref (ad a2)), (3, z_i v3), (4, z_i v4)] dX5_oddsBy_51 rfl (by decide) rfl ?_
          refine aw_goto X (tgt := 6) dX5_oddsBy_54 (by decide) ?_
          refine aw_sub [2, 3, 4, 5, 6, 0] rfl ?_
          exact ih a1 h_a1 a2 h_a2 v3 c_v3 v4 c_v4 (z_w (v5 + 1)) (z_w_in _) q7.2 hf
        · simp only [if_neg h10] at hf
          refine aw_iload X 5 dX5_oddsBy_44 rfl ?_
          refine aw_iload X 0 dX5_oddsBy_46 rfl ?_
          refine aw_iadd X dX5_oddsBy_48 ?_
          refine aw_istore X [(4, z_i (z_w (v4 + q3))), (6, z_i q3), (0, .ref (ad 745)), (1, .ref (ad a1)), (2, .ref (ad a2)), (3, z_i v3), (5, z_i v5)] dX5_oddsBy_49 (by decide) rfl ?_
          refine aw_iinc X 6 [(5, z_i (z_w (v5 + 1))), (4, z_i (z_w (v4 + q3))), (6, z_i q3), (0, .ref (ad 745)), (1, .ref (ad a1)), (2, .ref (ad a2)), (3, z_i v3)] dX5_oddsBy_51 rfl (by decide) rfl ?_
          refine aw_goto X (tgt := 6) dX5_oddsBy_54 (by decide) ?_
          refine aw_sub [3, 4, 5, 6, 1, 0] rfl ?_
          exact ih a1 h_a1 a2 h_a2 v3 c_v3 (z_w (v4 + q3)) (z_w_in _) (z_w (v5 + 1)) (z_w_in _) q7.2 hf
end S_X5_oddsBy
set_option maxHeartbeats 4000000 in
set_option maxRecDepth 100000 in
theorem C_X5_oddsBy (l : Launch) (D : va_G) (cA : Nat → ClassId) (sa ad : Nat → Nat) (bs : Nat) (a1 : Nat) (h_a1 : a1 ∈ ax_iX1) (a2 : Nat) (h_a2 : a2 ∈ ax_iX7) (v3 : Int) (c_v3 : Z_I v3) (σ : Nat → Nat → Int) (q : (Int × (Nat → Nat → Int))) (hf : f_X5_oddsBy a1 a2 v3 σ = some q) : AM l D cA sa ad bs 788 SHp yX5_oddsBy cX5_oddsBy 7 (some .int) 4 [.ref (ad 745), .ref (ad a1), .ref (ad a2), z_i v3] σ (some (z_i q.1)) (Z_I q.1) q.2 := by
  refine am_of (by decide +kernel) (Nat.le_of_ble_eq_true rfl) (fun p e s m args below meth c X hr => ?_)
  refine aw_lv (lv' := [(0, .ref (ad 745)), (1, .ref (ad a1)), (2, .ref (ad a2)), (3, z_i v3)]) rfl ?_
  unfold f_X5_oddsBy at hf
  refine aw_iconst X dX5_oddsBy_0 ?_
  refine aw_istore X [(4, z_i 0), (0, .ref (ad 745)), (1, .ref (ad a1)), (2, .ref (ad a2)), (3, z_i v3)] dX5_oddsBy_1 (by decide) rfl ?_
  refine aw_iconst X dX5_oddsBy_3 ?_
  refine aw_istore X [(5, z_i 0), (4, z_i 0), (0, .ref (ad 745)), (1, .ref (ad a1)), (2, .ref (ad a2)), (3, z_i v3)] dX5_oddsBy_4 (by decide) rfl ?_
  refine aw_sub [2, 3, 4, 5, 1, 0] rfl ?_
  exact A_X5_oddsBy_6 X hr 100000 a1 h_a1 a2 h_a2 v3 c_v3 0 (z_lit (x := 0) (by decide)) 0 (z_lit (x := 0) (by decide)) σ hf
