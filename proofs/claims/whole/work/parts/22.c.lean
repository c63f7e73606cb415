-- SpeedDesk$Chip.racingCost(III)I
section S_X1_racingCost
variable {p : Program} {l : Launch} {e : Env} {s : State} {m : MethodId} {args : Array Value} {below : List Frame} {meth : Method} {c : Code} {D : va_G} {cA : Nat → ClassId} {sa ad : Nat → Nat} {bs : Nat} {q : Int}
set_option maxHeartbeats 4000000 in
set_option maxRecDepth 100000 in
theorem A_X1_racingCost_20 (X : AX p s m args meth c D cA sa bs cX1_racingCost 6 RX1) (hr : meth.sig.returnType = (some .int)) (σ : Nat → Nat → Int) (a0 : Nat) (h_a0 : a0 ∈ ax_iX1) (v1 : Int) (c_v1 : Z_I v1) (v2 : Int) (c_v2 : Z_I v2) (v3 : Int) (c_v3 : Z_I v3) (t0 : Int) (c_t0 : Z_I t0) (hf : f_X1_racingCost_20 a0 v1 v2 v3 t0 σ = some q) : AW p l e (ax_rm 1 0 0) s m args below meth c D cA ad bs 788 SHp 0 0 (ax_MQ below args s D cA ad bs 788 SHp 0 0 (some (z_i q)) (Z_I q) σ) 6 20 [(0, .ref (ad a0)), (1, z_i v1), (2, z_i v2), (3, z_i v3)] [z_i t0] σ := by
  unfold f_X1_racingCost_20 at hf
  refine aw_istore X [(4, z_i t0), (0, .ref (ad a0)), (1, z_i v1), (2, z_i v2), (3, z_i v3)] dX1_racingCost_20 (by decide) rfl ?_
  refine aw_aload_n X 1 dX1_racingCost_22 rfl rfl ?_
  refine aw_iload_n X 2 dX1_racingCost_23 rfl rfl ?_
  refine aw_iload X 0 dX1_racingCost_24 rfl ?_
  obtain ⟨q7, e8, hf⟩ := z_bd hf
  refine aw_callV X [z_i v1, z_i t0] [] [z_i q7] cX1_90 (sX1_0 a0 h_a0) ciX1 (C_X1_hasPoint l D cA sa ad bs a0 h_a0 v1 c_v1 t0 c_t0 σ q7 e8) rfl ⟨(Nat.le_of_ble_eq_true rfl), (Nat.le_of_ble_eq_true rfl), (Nat.le_of_ble_eq_true rfl), (Nat.le_of_ble_eq_true rfl)⟩ rfl (Nat.le_of_ble_eq_true rfl) rfl dX1_racingCost_26 (fun p9 => ?_)
  refine aw_if_ne X (tgt := 34) (z_zI p9) dX1_racingCost_29 (by decide) (fun h10 => ?_) (fun h10 => ?_)
  · rw [if_neg h10] at hf
    refine aw_iload_n X 3 dX1_racingCost_34 rfl rfl ?_
    refine aw_aload_n X 1 dX1_racingCost_35 rfl rfl ?_
    refine aw_getR X (sX1_0 a0 h_a0) fX1_30 rfl dX1_racingCost_36 ?_
    refine aw_iload_n X 2 dX1_racingCost_39 rfl rfl ?_
    obtain ⟨g11, hf⟩ := z_gd hf
    refine aw_aald X (kd := 3) (sX1_6 a0 h_a0) (by decide) c_v1 g11.1 g11.2 (tg_pts7 a0 _ (by omega)) dX1_racingCost_40 ?_
    refine aw_iload X 0 dX1_racingCost_41 rfl ?_
    obtain ⟨g12, hf⟩ := z_gd hf
    refine aw_iald X (j := t0.toNat) (sX1_pt7 a0 h_a0 v1.toNat (by omega)) c_t0 g12.1 g12.2 rfl dX1_racingCost_43 (fun c13 => ?_)
    obtain ⟨q14, e15, hf⟩ := z_bd hf
    refine aw_callN X [z_i v2, z_i (σ (a0 + 7 + v1.toNat) t0.toNat)] [] [z_i q14] cX1_97 (C_X11_roundedUp l D cA sa ad bs v2 c_v2 (σ (a0 + 7 + v1.toNat) t0.toNat) c13 σ q14 e15) rfl ⟨(Nat.le_of_ble_eq_true rfl), (Nat.le_of_ble_eq_true rfl), (Nat.le_of_ble_eq_true rfl), (Nat.le_of_ble_eq_true rfl)⟩ rfl (Nat.le_of_ble_eq_true rfl) rfl dX1_racingCost_44 (fun p16 => ?_)
    refine aw_istore X [(5, z_i q14), (4, z_i t0), (0, .ref (ad a0)), (1, z_i v1), (2, z_i v2), (3, z_i v3)] dX1_racingCost_47 (by decide) rfl ?_
    refine aw_iload X 0 dX1_racingCost_49 rfl ?_
    refine aw_iload_n X 5 dX1_racingCost_51 rfl rfl ?_
    refine aw_icmp_le X (tgt := 57) p16 c_v3 dX1_racingCost_52 (by decide) (fun h17 => ?_) (fun h17 => ?_)
    · rw [if_pos h17] at hf
      refine aw_aload_n X 2 dX1_racingCost_57 rfl rfl ?_
      refine aw_getR X (sX1_0 a0 h_a0) fX1_33 rfl dX1_racingCost_58 ?_
      refine aw_iload_n X 3 dX1_racingCost_61 rfl rfl ?_
      obtain ⟨g18, hf⟩ := z_gd hf
      refine aw_aald X (kd := 3) (sX1_10 a0 h_a0) (by decide) c_v1 g18.1 g18.2 (tg_pts11 a0 _ (by omega)) dX1_racingCost_62 ?_
      refine aw_iload X 1 dX1_racingCost_63 rfl ?_
      obtain ⟨g19, hf⟩ := z_gd hf
      refine aw_iald X (j := t0.toNat) (sX1_pt11 a0 h_a0 v1.toNat (by omega)) c_t0 g19.1 g19.2 rfl dX1_racingCost_65 (fun c20 => ?_)
      refine aw_iload_n X 4 dX1_racingCost_66 rfl rfl ?_
      refine aw_imul X dX1_racingCost_67 ?_
      refine aw_aload_n X 2 dX1_racingCost_68 rfl rfl ?_
      refine aw_getR X (sX1_0 a0 h_a0) fX1_19 rfl dX1_racingCost_69 ?_
      refine aw_iload_n X 3 dX1_racingCost_72 rfl rfl ?_
      obtain ⟨g21, hf⟩ := z_gd hf
      refine aw_iald X (j := v1.toNat) (sX1_3 a0 h_a0) c_v1 g21.1 g21.2 rfl dX1_racingCost_73 (fun c22 => ?_)
      refine aw_iload_n X 5 dX1_racingCost_74 rfl rfl ?_
      refine aw_iload X 0 dX1_racingCost_75 rfl ?_
      refine aw_aload_n X 2 dX1_racingCost_77 rfl rfl ?_
      refine aw_getR X (sX1_0 a0 h_a0) fX1_48 rfl dX1_racingCost_78 ?_
      refine aw_iconst X dX1_racingCost_81 ?_
      refine aw_iald X (j := 2) (sX1_18 a0 h_a0) (z_lit (x := 2) (by decide)) (by decide) (by decide) rfl dX1_racingCost_82 (fun c23 => ?_)
      refine aw_iadd X dX1_racingCost_83 ?_
      refine aw_min X c_v3 (z_w_in _) cX1_100 ⟨(Nat.le_of_ble_eq_true rfl), (Nat.le_of_ble_eq_true rfl), (Nat.le_of_ble_eq_true rfl), (Nat.le_of_ble_eq_true rfl)⟩ dX1_racingCost_84 ?_
      refine aw_imul X dX1_racingCost_87 ?_
      refine aw_iadd X dX1_racingCost_88 ?_
      obtain rfl := Option.some.inj hf
      exact aw_iret X (z_w_in _) hr rfl dX1_racingCost_89
    · rw [if_neg h17] at hf
      refine aw_iconst X dX1_racingCost_55 ?_
      obtain rfl := Option.some.inj hf
      exact aw_iret X (z_lit (x := (-1)) (by decide)) hr rfl dX1_racingCost_56
  · rw [if_pos h10] at hf
    refine aw_iconst X dX1_racingCost_32 ?_
    obtain rfl := Option.some.inj hf
    exact aw_iret X (z_lit (x := (-1)) (by decide)) hr rfl dX1_racingCost_33
end S_X1_racingCost
set_option maxHeartbeats 4000000 in
set_option maxRecDepth 100000 in
theorem C_X1_racingCost (l : Launch) (D : va_G) (cA : Nat → ClassId) (sa ad : Nat → Nat) (bs : Nat) (a0 : Nat) (h_a0 : a0 ∈ ax_iX1) (v1 : Int) (c_v1 : Z_I v1) (v2 : Int) (c_v2 : Z_I v2) (v3 : Int) (c_v3 : Z_I v3) (σ : Nat → Nat → Int) (q : Int) (hf : f_X1_racingCost a0 v1 v2 v3 σ = some q) : AM l D cA sa ad bs 788 SHp yX1_racingCost cX1_racingCost 6 (some .int) 1 [.ref (ad a0), z_i v1, z_i v2, z_i v3] σ (some (z_i q)) (Z_I q) σ := by
  refine am_of (by decide +kernel) (Nat.le_of_ble_eq_true rfl) (fun p e s m args below meth c X hr => ?_)
  refine aw_lv (lv' := [(0, .ref (ad a0)), (1, z_i v1), (2, z_i v2), (3, z_i v3)]) rfl ?_
  unfold f_X1_racingCost at hf
  refine aw_aload_n X 0 dX1_racingCost_0 rfl rfl ?_
  refine aw_iload_n X 1 dX1_racingCost_1 rfl rfl ?_
  obtain ⟨q1, e2, hf⟩ := z_bd hf
  refine aw_callV X [z_i v1] [] [z_i q1] cX1_76 (sX1_0 a0 h_a0) ciX1 (C_X1_hasCluster l D cA sa ad bs a0 h_a0 v1 c_v1 σ q1 e2) rfl ⟨(Nat.le_of_ble_eq_true rfl), (Nat.le_of_ble_eq_true rfl), (Nat.le_of_ble_eq_true rfl), (Nat.le_of_ble_eq_true rfl)⟩ rfl (Nat.le_of_ble_eq_true rfl) rfl dX1_racingCost_2 (fun p3 => ?_)
  refine aw_if_eq X (tgt := 19) (z_zI p3) dX1_racingCost_5 (by decide) (fun h4 => ?_) (fun h4 => ?_)
  · rw [if_pos h4] at hf
    refine aw_iconst X dX1_racingCost_19 ?_
    exact A_X1_racingCost_20 X hr σ a0 h_a0 v1 c_v1 v2 c_v2 v3 c_v3 (-1) (z_lit (x := (-1)) (by decide)) hf
  · rw [if_neg h4] at hf
    refine aw_aload_n X 0 dX1_racingCost_8 rfl rfl ?_
    refine aw_getR X (sX1_0 a0 h_a0) fX1_25 rfl dX1_racingCost_9 ?_
    refine aw_iload_n X 1 dX1_racingCost_12 rfl rfl ?_
    obtain ⟨g5, hf⟩ := z_gd hf
    refine aw_iald X (j := v1.toNat) (sX1_5 a0 h_a0) c_v1 g5.1 g5.2 rfl dX1_racingCost_13 (fun c6 => ?_)
    refine aw_iconst X dX1_racingCost_14 ?_
    refine aw_isub X dX1_racingCost_15 ?_
    refine aw_goto X (tgt := 20) dX1_racingCost_16 (by decide) ?_
    exact A_X1_racingCost_20 X hr σ a0 h_a0 v1 c_v1 v2 c_v2 v3 c_v3 (z_w ((σ (a0 + 5) v1.toNat) - 1)) (z_w_in _) hf
-- SpeedDesk$Chip.slowCost(III)I
section S_X1_slowCost
variable {p : Program} {l : Launch} {e : Env} {s : State} {m : MethodId} {args : Array Value} {below : List Frame} {meth : Method} {c : Code} {D : va_G} {cA : Nat → ClassId} {sa ad : Nat → Nat} {bs : Nat} {q : Int}

end S_X1_slowCost
set_option maxHeartbeats 4000000 in
set_option maxRecDepth 100000 in
theorem C_X1_slowCost (l : Launch) (D : va_G) (cA : Nat → ClassId) (sa ad : Nat → Nat) (bs : Nat) (a0 : Nat) (h_a0 : a0 ∈ ax_iX1) (v1 : Int) (c_v1 : Z_I v1) (v2 : Int) (c_v2 : Z_I v2) (v3 : Int) (c_v3 : Z_I v3) (σ : Nat → Nat → Int) (q : Int) (hf : f_X1_slowCost a0 v1 v2 v3 σ = some q) : AM l D cA sa ad bs 788 SHp yX1_slowCost cX1_slowCost 5 (some .int) 1 [.ref (ad a0), z_i v1, z_i v2, z_i v3] σ (some (z_i q)) (Z_I q) σ := by
  refine am_of (by decide +kernel) (Nat.le_of_ble_eq_true rfl) (fun p e s m args below meth c X hr => ?_)
  refine aw_lv (lv' := [(0, .ref (ad a0)), (1, z_i v1), (2, z_i v2), (3, z_i v3)]) rfl ?_
  unfold f_X1_slowCost at hf
  refine aw_aload_n X 0 dX1_slowCost_0 rfl rfl ?_
  refine aw_iload_n X 1 dX1_slowCost_1 rfl rfl ?_
  refine aw_iload_n X 2 dX1_slowCost_2 rfl rfl ?_
  refine aw_iload_n X 3 dX1_slowCost_3 rfl rfl ?_
  obtain ⟨q1, e2, hf⟩ := z_bd hf
  refine aw_callN X [z_i v2, z_i v3] [z_i v1, .ref (ad a0)] [z_i q1, z_i v1, .ref (ad a0)] cX1_97 (C_X11_roundedUp l D cA sa ad bs v2 c_v2 v3 c_v3 σ q1 e2) rfl ⟨(Nat.le_of_ble_eq_true rfl), (Nat.le_of_ble_eq_true rfl), (Nat.le_of_ble_eq_true rfl), (Nat.le_of_ble_eq_true rfl)⟩ rfl (Nat.le_of_ble_eq_true rfl) rfl dX1_slowCost_4 (fun p3 => ?_)
  obtain ⟨q4, e5, hf⟩ := z_bd hf
  refine aw_callV X [z_i v1, z_i q1] [] [z_i q4] cX1_103 (sX1_0 a0 h_a0) ciX1 (C_X1_firstPointFor l D cA sa ad bs a0 h_a0 v1 c_v1 q1 p3 σ q4 e5) rfl ⟨(Nat.le_of_ble_eq_true rfl), (Nat.le_of_ble_eq_true rfl), (Nat.le_of_ble_eq_true rfl), (Nat.le_of_ble_eq_true rfl)⟩ rfl (Nat.le_of_ble_eq_true rfl) rfl dX1_slowCost_7 (fun p6 => ?_)
  refine aw_istore X [(4, z_i q4), (0, .ref (ad a0)), (1, z_i v1), (2, z_i v2), (3, z_i v3)] dX1_slowCost_10 (by decide) rfl ?_
  refine aw_iload X 0 dX1_slowCost_12 rfl ?_
  refine aw_iconst X dX1_slowCost_14 ?_
  refine aw_icmp_ne X (tgt := 22) p6 (z_lit (x := (-1)) (by decide)) dX1_slowCost_15 (by decide) (fun h7 => ?_) (fun h7 => ?_)
  · rw [if_neg h7] at hf
    refine aw_aload_n X 1 dX1_slowCost_22 rfl rfl ?_
    refine aw_getR X (sX1_0 a0 h_a0) fX1_33 rfl dX1_slowCost_23 ?_
    refine aw_iload_n X 2 dX1_slowCost_26 rfl rfl ?_
    obtain ⟨g8, hf⟩ := z_gd hf
    refine aw_aald X (kd := 3) (sX1_10 a0 h_a0) (by decide) c_v1 g8.1 g8.2 (tg_pts11 a0 _ (by omega)) dX1_slowCost_27 ?_
    refine aw_iload X 0 dX1_slowCost_28 rfl ?_
    obtain ⟨g9, hf⟩ := z_gd hf
    refine aw_iald X (j := q4.toNat) (sX1_pt11 a0 h_a0 v1.toNat (by omega)) p6 g9.1 g9.2 rfl dX1_slowCost_30 (fun c10 => ?_)
    refine aw_iload_n X 3 dX1_slowCost_31 rfl rfl ?_
    refine aw_imul X dX1_slowCost_32 ?_
    refine aw_aload_n X 1 dX1_slowCost_33 rfl rfl ?_
    refine aw_getR X (sX1_0 a0 h_a0) fX1_19 rfl dX1_slowCost_34 ?_
    refine aw_iload_n X 2 dX1_slowCost_37 rfl rfl ?_
    obtain ⟨g11, hf⟩ := z_gd hf
    refine aw_iald X (j := v1.toNat) (sX1_3 a0 h_a0) c_v1 g11.1 g11.2 rfl dX1_slowCost_38 (fun c12 => ?_)
    refine aw_iload_n X 4 dX1_slowCost_39 rfl rfl ?_
    refine aw_imul X dX1_slowCost_40 ?_
    refine aw_iadd X dX1_slowCost_41 ?_
    obtain rfl := Option.some.inj hf
    exact aw_iret X (z_w_in _) hr rfl dX1_slowCost_42
  · rw [if_pos h7] at hf
    refine aw_iconst X dX1_slowCost_18 ?_
    refine aw_goto X (tgt := 42) dX1_slowCost_19 (by decide) ?_
    obtain rfl := Option.some.inj hf
    exact aw_iret X (z_lit (x := (-1)) (by decide)) hr rfl dX1_slowCost_42
-- SpeedDesk$Step.put(IIIIJ)V
section S_X8_put
variable {p : Program} {l : Launch} {e : Env} {s : State} {m : MethodId} {args : Array Value} {below : List Frame} {meth : Method} {c : Code} {D : va_G} {cA : Nat → ClassId} {sa ad : Nat → Nat} {bs : Nat} {q : (Nat → Nat → Int)}

end S_X8_put
set_option maxHeartbeats 4000000 in
set_option maxRecDepth 100000 in
theorem C_X8_put (l : Launch) (D : va_G) (cA : Nat → ClassId) (sa ad : Nat → Nat) (bs : Nat) (a0 : Nat) (h_a0 : a0 ∈ ax_iX8) (v1 : Int) (c_v1 : Z_I v1) (v2 : Int) (c_v2 : Z_I v2) (v3 : Int) (c_v3 : Z_I v3) (v4 : Int) (c_v4 : Z_I v4) (v5 : Int) (c_v5 : Z_L v5) (σ : Nat → Nat → Int) (q : (Nat → Nat → Int)) (hf : f_X8_put a0 v1 v2 v3 v4 v5 σ = some q) : AM l D cA sa ad bs 788 SHp yX8_put cX8_put 7 none 0 [.ref (ad a0), z_i v1, z_i v2, z_i v3, z_i v4, z_v v5] σ none True q := by
  refine am_of (by decide +kernel) (Nat.le_of_ble_eq_true rfl) (fun p e s m args below meth c X hr => ?_)
  refine aw_lv (lv' := [(0, .ref (ad a0)), (1, z_i v1), (2, z_i v2), (3, z_i v3), (4, z_i v4), (5, z_v v5)]) rfl ?_
  unfold f_X8_put at hf
  refine aw_aload_n X 0 dX8_put_0 rfl rfl ?_
  refine aw_iload_n X 1 dX8_put_1 rfl rfl ?_
  refine aw_putI X (sX8_0 a0 h_a0) pX8_13 rfl c_v1 dX8_put_2 ?_
  refine aw_aload_n X 0 dX8_put_5 rfl rfl ?_
  refine aw_getR X (sX8_0 a0 h_a0) fX8_7 rfl dX8_put_6 ?_
  refine aw_iconst X dX8_put_9 ?_
  refine aw_iload_n X 2 dX8_put_10 rfl rfl ?_
  refine aw_iast X (j := 0) (sX8_1 a0 h_a0) (z_lit (x := 0) (by decide)) (by decide) (by decide) rfl c_v2 dX8_put_11 ?_
  refine aw_aload_n X 0 dX8_put_12 rfl rfl ?_
  refine aw_getR X (sX8_0 a0 h_a0) fX8_7 rfl dX8_put_13 ?_
  refine aw_iconst X dX8_put_16 ?_
  refine aw_iload_n X 3 dX8_put_17 rfl rfl ?_
  refine aw_iast X (j := 1) (sX8_1 a0 h_a0) (z_lit (x := 1) (by decide)) (by decide) (by decide) rfl c_v3 dX8_put_18 ?_
  refine aw_aload_n X 0 dX8_put_19 rfl rfl ?_
  refine aw_getR X (sX8_0 a0 h_a0) fX8_7 rfl dX8_put_20 ?_
  refine aw_iconst X dX8_put_23 ?_
  refine aw_iload X 4 dX8_put_24 rfl ?_
  refine aw_iast X (j := 2) (sX8_1 a0 h_a0) (z_lit (x := 2) (by decide)) (by decide) (by decide) rfl c_v4 dX8_put_26 ?_
  refine aw_aload_n X 0 dX8_put_27 rfl rfl ?_
  refine aw_lload X 5 dX8_put_28 rfl ?_
  refine aw_putL X (sX8_0 a0 h_a0) pX8_17 rfl c_v5 dX8_put_30 ?_
  obtain rfl := Option.some.inj hf
  exact aw_vret X trivial hr rfl dX8_put_33
-- SpeedDesk$Step.numbersTold()I
section S_X8_numbersTold
variable {p : Program} {l : Launch} {e : Env} {s : State} {m : MethodId} {args : Array Value} {below : List Frame} {meth : Method} {c : Code} {D : va_G} {cA : Nat → ClassId} {sa ad : Nat → Nat} {bs : Nat} {q : Int}

end S_X8_numbersTold
set_option maxHeartbeats 4000000 in
set_option maxRecDepth 100000 in
theorem C_X8_numbersTold (l : Launch) (D : va_G) (cA : Nat → ClassId) (sa ad : Nat → Nat) (bs : Nat) (a0 : Nat) (h_a0 : a0 ∈ ax_iX8) (σ : Nat → Nat → Int) (q : Int) (hf : f_X8_numbersTold a0 σ = some q) : AM l D cA sa ad bs 788 SHp yX8_numbersTold cX8_numbersTold 1 (some .int) 0 [.ref (ad a0)] σ (some (z_i q)) (Z_I q) σ := by
  refine am_of (by decide +kernel) (Nat.le_of_ble_eq_true rfl) (fun p e s m args below meth c X hr => ?_)
  refine aw_lv (lv' := [(0, .ref (ad a0))]) rfl ?_
  unfold f_X8_numbersTold at hf
  refine aw_aload_n X 0 dX8_numbersTold_0 rfl rfl ?_
  refine aw_getI X (sX8_0 a0 h_a0) fX8_13 rfl dX8_numbersTold_1 (fun c1 => ?_)
  refine aw_if_lt X (tgt := 29) c1 dX8_numbersTold_4 (by decide) (fun h2 => ?_) (fun h2 => ?_)
  · rw [if_pos h2] at hf
    refine aw_iconst X dX8_numbersTold_29 ?_
    obtain rfl := Option.some.inj hf
    exact aw_iret X (z_lit (x := 0) (by decide)) hr rfl dX8_numbersTold_30
  · rw [if_neg h2] at hf
    refine aw_aload_n X 0 dX8_numbersTold_7 rfl rfl ?_
    refine aw_getI X (sX8_0 a0 h_a0) fX8_13 rfl dX8_numbersTold_8 (fun c3 => ?_)
    refine aw_gets X (r := 3) rfl gX8_21 dX8_numbersTold_11 ?_
    refine aw_slen X (r := 3) (x := 7) rfl rfl dX8_numbersTold_14 ?_
    refine aw_icmp_ge X (tgt := 29) c3 (z_lit (x := 7) (by decide)) dX8_numbersTold_15 (by decide) (fun h4 => ?_) (fun h4 => ?_)
    · rw [if_pos h4] at hf
      refine aw_iconst X dX8_numbersTold_29 ?_
      obtain rfl := Option.some.inj hf
      exact aw_iret X (z_lit (x := 0) (by decide)) hr rfl dX8_numbersTold_30
    · rw [if_neg h4] at hf
      refine aw_gets X (r := 3) rfl gX8_21 dX8_numbersTold_18 ?_
      refine aw_aload_n X 0 dX8_numbersTold_21 rfl rfl ?_
      refine aw_getI X (sX8_0 a0 h_a0) fX8_13 rfl dX8_numbersTold_22 (fun c5 => ?_)
      obtain ⟨g6, hf⟩ := z_gd hf
      refine aw_sald X (r := 3) (x := ([1, 2, 3, 1, 1, 1, 0] : List Int).getD (σ a0 1).toNat 0) rfl c5 g6.1 g6.2 rfl dX8_numbersTold_25 ?_
      refine aw_goto X (tgt := 30) dX8_numbersTold_26 (by decide) ?_
      obtain rfl := Option.some.inj hf
      exact aw_iret X (st_in3 _) hr rfl dX8_numbersTold_30
-- SpeedDesk$State.begin()V
section S_X7_begin
variable {p : Program} {l : Launch} {e : Env} {s : State} {m : MethodId} {args : Array Value} {below : List Frame} {meth : Method} {c : Code} {D : va_G} {cA : Nat → ClassId} {sa ad : Nat → Nat} {bs : Nat} {q : (Nat → Nat → Int)}
set_option maxHeartbeats 4000000 in
set_option maxRecDepth 100000 in
theorem A_X7_begin_112 (X : AX p s m args meth c D cA sa bs cX7_begin 2 RX7) (hr : meth.sig.returnType = none) : ∀ (k : Nat) (a0 : Nat) (h_a0 : a0 ∈ ax_iX7) (v1 : Int) (c_v1 : Z_I v1) (σ : Nat → Nat → Int), f_X7_begin_112 k a0 v1 σ = some q → AW p l e (ax_rm 0 0 0) s m args below meth c D cA ad bs 788 SHp 0 0 (ax_MQ below args s D cA ad bs 788 SHp 0 0 none True q) 2 112 [(0, .ref (ad a0)), (1, z_i v1)] [] σ := by
  intro k
  induction k with
  | zero =>
    intro a0 h_a0 v1 c_v1 σ hf
    unfold f_X7_begin_112 at hf
    cases hf
  | succ k ih =>
    intro a0 h_a0 v1 c_v1 σ hf
    unfold f_X7_begin_112 at hf
    refine aw_iload_n X 1 dX7_begin_112 rfl rfl ?_
    refine aw_bipush X dX7_begin_113 (by decide) ?_
    refine aw_icmp_ge X (tgt := 131) c_v1 (z_lit (x := 6) (by decide)) dX7_begin_115 (by decide) (fun h10 => ?_) (fun h10 => ?_)
    · rw [if_pos h10] at hf
      obtain rfl := Option.some.inj hf
      exact aw_vret X trivial hr rfl dX7_begin_131
    · rw [if_neg h10] at hf
      refine aw_aload_n X 0 dX7_begin_118 rfl rfl ?_
      refine aw_getR X (sX7_0 a0 h_a0) fX7_33 rfl dX7_begin_119 ?_
      refine aw_iload_n X 1 dX7_begin_122 rfl rfl ?_
      refine aw_iconst X dX7_begin_123 ?_
      obtain ⟨g11, hf⟩ := z_gd hf
      refine aw_iast X (j := v1.toNat) (sX7_8 a0 h_a0) c_v1 g11.1 g11.2 rfl (z_lit (x := 0) (by decide)) dX7_begin_124 ?_
      refine aw_iinc X 1 [(1, z_i (z_w (v1 + 1))), (0, .ref (ad a0))] dX7_begin_125 rfl (by decide) rfl ?_
      refine aw_goto X (tgt := 112) dX7_begin_128 (by decide) ?_
      refine aw_sub [1, 0] rfl ?_
      exact ih a0 h_a0 (z_w (v1 + 1)) (z_w_in _) (u2 σ (a0 + 8) v1.toNat 0) hf
set_option maxHeartbeats 4000000 in
set_option maxRecDepth 100000 in
theorem A_X7_begin_78 (X : AX p s m args meth c D cA sa bs cX7_begin 2 RX7) (hr : meth.sig.returnType = none) : ∀ (k : Nat) (a0 : Nat) (h_a0 : a0 ∈ ax_iX7) (v1 : Int) (c_v1 : Z_I v1) (σ : Nat → Nat → Int), f_X7_begin_78 k a0 v1 σ = some q → AW p l e (ax_rm 0 0 0) s m args below meth c D cA ad bs 788 SHp 0 0 (ax_MQ below args s D cA ad bs 788 SHp 0 0 none True q) 2 78 [(0, .ref (ad a0)), (1, z_i v1)] [] σ := by
  intro k
  induction k with
  | zero =>
    intro a0 h_a0 v1 c_v1 σ hf
    unfold f_X7_begin_78 at hf
    cases hf
  | succ k ih =>
    intro a0 h_a0 v1 c_v1 σ hf
    unfold f_X7_begin_78 at hf
    refine aw_iload_n X 1 dX7_begin_78 rfl rfl ?_
    refine aw_iconst X dX7_begin_79 ?_
    refine aw_icmp_ge X (tgt := 110) c_v1 (z_lit (x := 3) (by decide)) dX7_begin_80 (by decide) (fun h6 => ?_) (fun h6 => ?_)
    · rw [if_pos h6] at hf
      refine aw_iconst X dX7_begin_110 ?_
      refine aw_istore_n X [(1, z_i 0), (0, .ref (ad a0))] dX7_begin_111 rfl (by decide) rfl ?_
      refine aw_sub [1, 0] rfl ?_
      exact A_X7_begin_112 X hr 100000 a0 h_a0 0 (z_lit (x := 0) (by decide)) σ hf
    · rw [if_neg h6] at hf
      refine aw_aload_n X 0 dX7_begin_83 rfl rfl ?_
      refine aw_getR X (sX7_0 a0 h_a0) fX7_24 rfl dX7_begin_84 ?_
      refine aw_iload_n X 1 dX7_begin_87 rfl rfl ?_
      refine aw_iconst X dX7_begin_88 ?_
      obtain ⟨g7, hf⟩ := z_gd hf
      refine aw_iast X (j := v1.toNat) (sX7_5 a0 h_a0) c_v1 g7.1 g7.2 rfl (z_lit (x := 0) (by decide)) dX7_begin_89 ?_
      refine aw_aload_n X 0 dX7_begin_90 rfl rfl ?_
      refine aw_getR X (sX7_0 a0 h_a0) fX7_27 rfl dX7_begin_91 ?_
      refine aw_iload_n X 1 dX7_begin_94 rfl rfl ?_
      refine aw_iconst X dX7_begin_95 ?_
      obtain ⟨g8, hf⟩ := z_gd hf
      refine aw_iast X (j := v1.toNat) (sX7_6 a0 h_a0) c_v1 g8.1 g8.2 rfl (z_lit (x := 0) (by decide)) dX7_begin_96 ?_
      refine aw_aload_n X 0 dX7_begin_97 rfl rfl ?_
      refine aw_getR X (sX7_0 a0 h_a0) fX7_30 rfl dX7_begin_98 ?_
      refine aw_iload_n X 1 dX7_begin_101 rfl rfl ?_
      refine aw_iconst X dX7_begin_102 ?_
      obtain ⟨g9, hf⟩ := z_gd hf
      refine aw_iast X (j := v1.toNat) (sX7_7 a0 h_a0) c_v1 g9.1 g9.2 rfl (z_lit (x := 0) (by decide)) dX7_begin_103 ?_
      refine aw_iinc X 1 [(1, z_i (z_w (v1 + 1))), (0, .ref (ad a0))] dX7_begin_104 rfl (by decide) rfl ?_
      refine aw_goto X (tgt := 78) dX7_begin_107 (by decide) ?_
      refine aw_sub [1, 0] rfl ?_
      exact ih a0 h_a0 (z_w (v1 + 1)) (z_w_in _) (u2 (u2 (u2 σ (a0 + 5) v1.toNat 0) (a0 + 6) v1.toNat 0) (a0 + 7) v1.toNat 0) hf
set_option maxHeartbeats 4000000 in
set_option maxRecDepth 100000 in
theorem A_X7_begin_37 (X : AX p s m args meth c D cA sa bs cX7_begin 2 RX7) (hr : meth.sig.returnType = none) : ∀ (k : Nat) (a0 : Nat) (h_a0 : a0 ∈ ax_iX7) (v1 : Int) (c_v1 : Z_I v1) (σ : Nat → Nat → Int), f_X7_begin_37 k a0 v1 σ = some q → AW p l e (ax_rm 0 0 0) s m args below meth c D cA ad bs 788 SHp 0 0 (ax_MQ below args s D cA ad bs 788 SHp 0 0 none True q) 2 37 [(0, .ref (ad a0)), (1, z_i v1)] [] σ := by
  intro k
  induction k with
  | zero =>
    intro a0 h_a0 v1 c_v1 σ hf
    unfold f_X7_begin_37 at hf
    cases hf
  | succ k ih =>
    intro a0 h_a0 v1 c_v1 σ hf
    unfold f_X7_begin_37 at hf
    refine aw_iload_n X 1 dX7_begin_37 rfl rfl ?_
    refine aw_iconst X dX7_begin_38 ?_
    refine aw_icmp_ge X (tgt := 76) c_v1 (z_lit (x := 4) (by decide)) dX7_begin_39 (by decide) (fun h1 => ?_) (fun h1 => ?_)
    · rw [if_pos h1] at hf
      refine aw_iconst X dX7_begin_76 ?_
      refine aw_istore_n X [(1, z_i 0), (0, .ref (ad a0))] dX7_begin_77 rfl (by decide) rfl ?_
      refine aw_sub [1, 0] rfl ?_
      exact A_X7_begin_78 X hr 100000 a0 h_a0 0 (z_lit (x := 0) (by decide)) σ hf
    · rw [if_neg h1] at hf
      refine aw_aload_n X 0 dX7_begin_42 rfl rfl ?_
      refine aw_getR X (sX7_0 a0 h_a0) fX7_9 rfl dX7_begin_43 ?_
      refine aw_iload_n X 1 dX7_begin_46 rfl rfl ?_
      refine aw_iconst X dX7_begin_47 ?_
      obtain ⟨g2, hf⟩ := z_gd hf
      refine aw_iast X (j := v1.toNat) (sX7_1 a0 h_a0) c_v1 g2.1 g2.2 rfl (z_lit (x := 0) (by decide)) dX7_begin_48 ?_
      refine aw_aload_n X 0 dX7_begin_49 rfl rfl ?_
      refine aw_getR X (sX7_0 a0 h_a0) fX7_15 rfl dX7_begin_50 ?_
      refine aw_iload_n X 1 dX7_begin_53 rfl rfl ?_
      refine aw_iconst X dX7_begin_54 ?_
      obtain ⟨g3, hf⟩ := z_gd hf
      refine aw_iast X (j := v1.toNat) (sX7_2 a0 h_a0) c_v1 g3.1 g3.2 rfl (z_lit (x := 0) (by decide)) dX7_begin_55 ?_
      refine aw_aload_n X 0 dX7_begin_56 rfl rfl ?_
      refine aw_getR X (sX7_0 a0 h_a0) fX7_18 rfl dX7_begin_57 ?_
      refine aw_iload_n X 1 dX7_begin_60 rfl rfl ?_
      refine aw_iconst X dX7_begin_61 ?_
      obtain ⟨g4, hf⟩ := z_gd hf
      refine aw_iast X (j := v1.toNat) (sX7_3 a0 h_a0) c_v1 g4.1 g4.2 rfl (z_lit (x := 0) (by decide)) dX7_begin_62 ?_
      refine aw_aload_n X 0 dX7_begin_63 rfl rfl ?_
      refine aw_getR X (sX7_0 a0 h_a0) fX7_21 rfl dX7_begin_64 ?_
      refine aw_iload_n X 1 dX7_begin_67 rfl rfl ?_
      refine aw_iconst X dX7_begin_68 ?_
      obtain ⟨g5, hf⟩ := z_gd hf
      refine aw_iast X (j := v1.toNat) (sX7_4 a0 h_a0) c_v1 g5.1 g5.2 rfl (z_lit (x := 0) (by decide)) dX7_begin_69 ?_
      refine aw_iinc X 1 [(1, z_i (z_w (v1 + 1))), (0, .ref (ad a0))] dX7_begin_70 rfl (by decide) rfl ?_
      refine aw_goto X (tgt := 37) dX7_begin_73 (by decide) ?_
      refine aw_sub [1, 0] rfl ?_
      exact ih a0 h_a0 (z_w (v1 + 1)) (z_w_in _) (u2 (u2 (u2 (u2 σ (a0 + 1) v1.toNat 0) (a0 + 2) v1.toNat 0) (a0 + 3) v1.toNat 0) (a0 + 4) v1.toNat 0) hf
end S_X7_begin
set_option maxHeartbeats 4000000 in
set_option maxRecDepth 100000 in
theorem C_X7_begin (l : Launch) (D : va_G) (cA : Nat → ClassId) (sa ad : Nat → Nat) (bs : Nat) (a0 : Nat) (h_a0 : a0 ∈ ax_iX7) (σ : Nat → Nat → Int) (q : (Nat → Nat → Int)) (hf : f_X7_begin a0 σ = some q) : AM l D cA sa ad bs 788 SHp yX7_begin cX7_begin 2 none 0 [.ref (ad a0)] σ none True q := by
  refine am_of (by decide +kernel) (Nat.le_of_ble_eq_true rfl) (fun p e s m args below meth c X hr => ?_)
  refine aw_lv (lv' := [(0, .ref (ad a0))]) rfl ?_
  unfold f_X7_begin at hf
  refine aw_aload_n X 0 dX7_begin_0 rfl rfl ?_
  refine aw_iconst X dX7_begin_1 ?_
  refine aw_putI X (sX7_0 a0 h_a0) pX7_49 rfl (z_lit (x := 0) (by decide)) dX7_begin_2 ?_
  refine aw_aload_n X 0 dX7_begin_5 rfl rfl ?_
  refine aw_iconst X dX7_begin_6 ?_
  refine aw_putI X (sX7_0 a0 h_a0) pX7_53 rfl (z_lit (x := 0) (by decide)) dX7_begin_7 ?_
  refine aw_aload_n X 0 dX7_begin_10 rfl rfl ?_
  refine aw_iconst X dX7_begin_11 ?_
  refine aw_putI X (sX7_0 a0 h_a0) pX7_56 rfl (z_lit (x := 0) (by decide)) dX7_begin_12 ?_
  refine aw_aload_n X 0 dX7_begin_15 rfl rfl ?_
  refine aw_iconst X dX7_begin_16 ?_
  refine aw_putI X (sX7_0 a0 h_a0) pX7_59 rfl (z_lit (x := 0) (by decide)) dX7_begin_17 ?_
  refine aw_aload_n X 0 dX7_begin_20 rfl rfl ?_
  refine aw_iconst X dX7_begin_21 ?_
  refine aw_putI X (sX7_0 a0 h_a0) pX7_62 rfl (z_lit (x := 0) (by decide)) dX7_begin_22 ?_
  refine aw_aload_n X 0 dX7_begin_25 rfl rfl ?_
  refine aw_iconst X dX7_begin_26 ?_
  refine aw_putI X (sX7_0 a0 h_a0) pX7_65 rfl (z_lit (x := 0) (by decide)) dX7_begin_27 ?_
  refine aw_aload_n X 0 dX7_begin_30 rfl rfl ?_
  refine aw_iconst X dX7_begin_31 ?_
  refine aw_putI X (sX7_0 a0 h_a0) pX7_68 rfl (z_lit (x := 0) (by decide)) dX7_begin_32 ?_
  refine aw_iconst X dX7_begin_35 ?_
  refine aw_istore_n X [(1, z_i 0), (0, .ref (ad a0))] dX7_begin_36 rfl (by decide) rfl ?_
  refine aw_sub [1, 0] rfl ?_
  exact A_X7_begin_37 X hr 100000 a0 h_a0 0 (z_lit (x := 0) (by decide)) (u2 (u2 (u2 (u2 (u2 (u2 (u2 σ a0 0 0) a0 1 0) a0 2 0) a0 3 0) a0 4 0) a0 5 0) a0 6 0) hf
-- SpeedDesk$State.copyFrom(LSpeedDesk$State;)V
section S_X7_copyFrom
variable {p : Program} {l : Launch} {e : Env} {s : State} {m : MethodId} {args : Array Value} {below : List Frame} {meth : Method} {c : Code} {D : va_G} {cA : Nat → ClassId} {sa ad : Nat → Nat} {bs : Nat} {q : (Nat → Nat → Int)}

end S_X7_copyFrom
set_option maxHeartbeats 4000000 in
set_option maxRecDepth 100000 in
theorem C_X7_copyFrom (l : Launch) (D : va_G) (cA : Nat → ClassId) (sa ad : Nat → Nat) (bs : Nat) (a0 : Nat) (h_a0 : a0 ∈ ax_iX7) (a1 : Nat) (h_a1 : a1 ∈ ax_iX7) (σ : Nat → Nat → Int) (q : (Nat → Nat → Int)) (hf : f_X7_copyFrom a0 a1 σ = some q) : AM l D cA sa ad bs 788 SHp yX7_copyFrom cX7_copyFrom 2 none 1 [.ref (ad a0), .ref (ad a1)] σ none True q := by
  refine am_of (by decide +kernel) (Nat.le_of_ble_eq_true rfl) (fun p e s m args below meth c X hr => ?_)
  refine aw_lv (lv' := [(0, .ref (ad a0)), (1, .ref (ad a1))]) rfl ?_
  unfold f_X7_copyFrom at hf
  refine aw_aload_n X 0 dX7_copyFrom_0 rfl rfl ?_
  refine aw_aload_n X 1 dX7_copyFrom_1 rfl rfl ?_
  refine aw_getI X (sX7_0 a1 h_a1) fX7_49 rfl dX7_copyFrom_2 (fun c1 => ?_)
  refine aw_putI X (sX7_0 a0 h_a0) pX7_49 rfl c1 dX7_copyFrom_5 ?_
  refine aw_aload_n X 0 dX7_copyFrom_8 rfl rfl ?_
  refine aw_aload_n X 1 dX7_copyFrom_9 rfl rfl ?_
  refine aw_getI X (sX7_0 a1 h_a1) fX7_53 rfl dX7_copyFrom_10 (fun c2 => ?_)
  refine aw_putI X (sX7_0 a0 h_a0) pX7_53 rfl c2 dX7_copyFrom_13 ?_
  refine aw_aload_n X 0 dX7_copyFrom_16 rfl rfl ?_
  refine aw_aload_n X 1 dX7_copyFrom_17 rfl rfl ?_
  refine aw_getI X (sX7_0 a1 h_a1) fX7_56 rfl dX7_copyFrom_18 (fun c3 => ?_)
  refine aw_putI X (sX7_0 a0 h_a0) pX7_56 rfl c3 dX7_copyFrom_21 ?_
  refine aw_aload_n X 0 dX7_copyFrom_24 rfl rfl ?_
  refine aw_aload_n X 1 dX7_copyFrom_25 rfl rfl ?_
  refine aw_getI X (sX7_0 a1 h_a1) fX7_59 rfl dX7_copyFrom_26 (fun c4 => ?_)
  refine aw_putI X (sX7_0 a0 h_a0) pX7_59 rfl c4 dX7_copyFrom_29 ?_
  refine aw_aload_n X 0 dX7_copyFrom_32 rfl rfl ?_
  refine aw_aload_n X 1 dX7_copyFrom_33 rfl rfl ?_
  refine aw_getI X (sX7_0 a1 h_a1) fX7_62 rfl dX7_copyFrom_34 (fun c5 => ?_)
  refine aw_putI X (sX7_0 a0 h_a0) pX7_62 rfl c5 dX7_copyFrom_37 ?_
  refine aw_aload_n X 0 dX7_copyFrom_40 rfl rfl ?_
  refine aw_aload_n X 1 dX7_copyFrom_41 rfl rfl ?_
  refine aw_getI X (sX7_0 a1 h_a1) fX7_65 rfl dX7_copyFrom_42 (fun c6 => ?_)
  refine aw_putI X (sX7_0 a0 h_a0) pX7_65 rfl c6 dX7_copyFrom_45 ?_
  refine aw_aload_n X 0 dX7_copyFrom_48 rfl rfl ?_
  refine aw_aload_n X 1 dX7_copyFrom_49 rfl rfl ?_
  refine aw_getI X (sX7_0 a1 h_a1) fX7_68 rfl dX7_copyFrom_50 (fun c7 => ?_)
  refine aw_putI X (sX7_0 a0 h_a0) pX7_68 rfl c7 dX7_copyFrom_53 ?_
  refine aw_aload_n X 1 dX7_copyFrom_56 rfl rfl ?_
  refine aw_getR X (sX7_0 a1 h_a1) fX7_9 rfl dX7_copyFrom_57 ?_
  refine aw_iconst X dX7_copyFrom_60 ?_
  refine aw_aload_n X 0 dX7_copyFrom_61 rfl rfl ?_
  refine aw_getR X (sX7_0 a0 h_a0) fX7_9 rfl dX7_copyFrom_62 ?_
  refine aw_iconst X dX7_copyFrom_65 ?_
  refine aw_iconst X dX7_copyFrom_66 ?_
  refine aw_cpyI X cX7_71 (sX7_1 a1 h_a1) (sX7_1 a0 h_a0) (z_lit (x := 0) (by decide)) (z_lit (x := 0) (by decide)) (z_lit (x := 4) (by decide)) (by decide) (by decide) (by decide) (by decide) (by decide) ⟨(Nat.le_of_ble_eq_true rfl), (Nat.le_of_ble_eq_true rfl)⟩ dX7_copyFrom_67 ?_
  refine aw_aload_n X 1 dX7_copyFrom_70 rfl rfl ?_
  refine aw_getR X (sX7_0 a1 h_a1) fX7_15 rfl dX7_copyFrom_71 ?_
  refine aw_iconst X dX7_copyFrom_74 ?_
  refine aw_aload_n X 0 dX7_copyFrom_75 rfl rfl ?_
  refine aw_getR X (sX7_0 a0 h_a0) fX7_15 rfl dX7_copyFrom_76 ?_
  refine aw_iconst X dX7_copyFrom_79 ?_
  refine aw_iconst X dX7_copyFrom_80 ?_
  refine aw_cpyI X cX7_71 (sX7_2 a1 h_a1) (sX7_2 a0 h_a0) (z_lit (x := 0) (by decide)) (z_lit (x := 0) (by decide)) (z_lit (x := 4) (by decide)) (by decide) (by decide) (by decide) (by decide) (by decide) ⟨(Nat.le_of_ble_eq_true rfl), (Nat.le_of_ble_eq_true rfl)⟩ dX7_copyFrom_81 ?_
  refine aw_aload_n X 1 dX7_copyFrom_84 rfl rfl ?_
  refine aw_getR X (sX7_0 a1 h_a1) fX7_18 rfl dX7_copyFrom_85 ?_
  refine aw_iconst X dX7_copyFrom_88 ?_
  refine aw_aload_n X 0 dX7_copyFrom_89 rfl rfl ?_
  refine aw_getR X (sX7_0 a0 h_a0) fX7_18 rfl dX7_copyFrom_90 ?_
  refine aw_iconst X dX7_copyFrom_93 ?_
  refine aw_iconst X dX7_copyFrom_94 ?_
  refine aw_cpyI X cX7_71 (sX7_3 a1 h_a1) (sX7_3 a0 h_a0) (z_lit (x := 0) (by decide)) (z_lit (x := 0) (by decide)) (z_lit (x := 4) (by decide)) (by decide) (by decide) (by decide) (by decide) (by decide) ⟨(Nat.le_of_ble_eq_true rfl), (Nat.le_of_ble_eq_true rfl)⟩ dX7_copyFrom_95 ?_
  refine aw_aload_n X 1 dX7_copyFrom_98 rfl rfl ?_
  refine aw_getR X (sX7_0 a1 h_a1) fX7_21 rfl dX7_copyFrom_99 ?_
  refine aw_iconst X dX7_copyFrom_102 ?_
  refine aw_aload_n X 0 dX7_copyFrom_103 rfl rfl ?_
  refine aw_getR X (sX7_0 a0 h_a0) fX7_21 rfl dX7_copyFrom_104 ?_
  refine aw_iconst X dX7_copyFrom_107 ?_
  refine aw_iconst X dX7_copyFrom_108 ?_
  refine aw_cpyI X cX7_71 (sX7_4 a1 h_a1) (sX7_4 a0 h_a0) (z_lit (x := 0) (by decide)) (z_lit (x := 0) (by decide)) (z_lit (x := 4) (by decide)) (by decide) (by decide) (by decide) (by decide) (by decide) ⟨(Nat.le_of_ble_eq_true rfl), (Nat.le_of_ble_eq_true rfl)⟩ dX7_copyFrom_109 ?_
  refine aw_aload_n X 1 dX7_copyFrom_112 rfl rfl ?_
  refine aw_getR X (sX7_0 a1 h_a1) fX7_24 rfl dX7_copyFrom_113 ?_
  refine aw_iconst X dX7_copyFrom_116 ?_
  refine aw_aload_n X 0 dX7_copyFrom_117 rfl rfl ?_
  refine aw_getR X (sX7_0 a0 h_a0) fX7_24 rfl dX7_copyFrom_118 ?_
  refine aw_iconst X dX7_copyFrom_121 ?_
  refine aw_iconst X dX7_copyFrom_122 ?_
  refine aw_cpyI X cX7_71 (sX7_5 a1 h_a1) (sX7_5 a0 h_a0) (z_lit (x := 0) (by decide)) (z_lit (x := 0) (by decide)) (z_lit (x := 3) (by decide)) (by decide) (by decide) (by decide) (by decide) (by decide) ⟨(Nat.le_of_ble_eq_true rfl), (Nat.le_of_ble_eq_true rfl)⟩ dX7_copyFrom_123 ?_
  refine aw_aload_n X 1 dX7_copyFrom_126 rfl rfl ?_
  refine aw_getR X (sX7_0 a1 h_a1) fX7_27 rfl dX7_copyFrom_127 ?_
  refine aw_iconst X dX7_copyFrom_130 ?_
  refine aw_aload_n X 0 dX7_copyFrom_131 rfl rfl ?_
  refine aw_getR X (sX7_0 a0 h_a0) fX7_27 rfl dX7_copyFrom_132 ?_
  refine aw_iconst X dX7_copyFrom_135 ?_
  refine aw_iconst X dX7_copyFrom_136 ?_
  refine aw_cpyI X cX7_71 (sX7_6 a1 h_a1) (sX7_6 a0 h_a0) (z_lit (x := 0) (by decide)) (z_lit (x := 0) (by decide)) (z_lit (x := 3) (by decide)) (by decide) (by decide) (by decide) (by decide) (by decide) ⟨(Nat.le_of_ble_eq_true rfl), (Nat.le_of_ble_eq_true rfl)⟩ dX7_copyFrom_137 ?_
  refine aw_aload_n X 1 dX7_copyFrom_140 rfl rfl ?_
  refine aw_getR X (sX7_0 a1 h_a1) fX7_30 rfl dX7_copyFrom_141 ?_
  refine aw_iconst X dX7_copyFrom_144 ?_
  refine aw_aload_n X 0 dX7_copyFrom_145 rfl rfl ?_
  refine aw_getR X (sX7_0 a0 h_a0) fX7_30 rfl dX7_copyFrom_146 ?_
  refine aw_iconst X dX7_copyFrom_149 ?_
  refine aw_iconst X dX7_copyFrom_150 ?_
  refine aw_cpyI X cX7_71 (sX7_7 a1 h_a1) (sX7_7 a0 h_a0) (z_lit (x := 0) (by decide)) (z_lit (x := 0) (by decide)) (z_lit (x := 3) (by decide)) (by decide) (by decide) (by decide) (by decide) (by decide) ⟨(Nat.le_of_ble_eq_true rfl), (Nat.le_of_ble_eq_true rfl)⟩ dX7_copyFrom_151 ?_
  refine aw_aload_n X 1 dX7_copyFrom_154 rfl rfl ?_
  refine aw_getR X (sX7_0 a1 h_a1) fX7_33 rfl dX7_copyFrom_155 ?_
  refine aw_iconst X dX7_copyFrom_158 ?_
  refine aw_aload_n X 0 dX7_copyFrom_159 rfl rfl ?_
  refine aw_getR X (sX7_0 a0 h_a0) fX7_33 rfl dX7_copyFrom_160 ?_
  refine aw_iconst X dX7_copyFrom_163 ?_
  refine aw_bipush X dX7_copyFrom_164 (by decide) ?_
  refine aw_cpyI X cX7_71 (sX7_8 a1 h_a1) (sX7_8 a0 h_a0) (z_lit (x := 0) (by decide)) (z_lit (x := 0) (by decide)) (z_lit (x := 6) (by decide)) (by decide) (by decide) (by decide) (by decide) (by decide) ⟨(Nat.le_of_ble_eq_true rfl), (Nat.le_of_ble_eq_true rfl)⟩ dX7_copyFrom_166 ?_
  refine aw_aload_n X 1 dX7_copyFrom_169 rfl rfl ?_
  refine aw_getR X (sX7_0 a1 h_a1) fX7_36 rfl dX7_copyFrom_170 ?_
  refine aw_iconst X dX7_copyFrom_173 ?_
  refine aw_aload_n X 0 dX7_copyFrom_174 rfl rfl ?_
  refine aw_getR X (sX7_0 a0 h_a0) fX7_36 rfl dX7_copyFrom_175 ?_
  refine aw_iconst X dX7_copyFrom_178 ?_
  refine aw_bipush X dX7_copyFrom_179 (by decide) ?_
  refine aw_cpyL X cX7_71 (sX7_9 a1 h_a1) (sX7_9 a0 h_a0) (z_lit (x := 0) (by decide)) (z_lit (x := 0) (by decide)) (z_lit (x := 7) (by decide)) (by decide) (by decide) (by decide) (by decide) (by decide) ⟨(Nat.le_of_ble_eq_true rfl), (Nat.le_of_ble_eq_true rfl)⟩ dX7_copyFrom_181 ?_
  refine aw_aload_n X 1 dX7_copyFrom_184 rfl rfl ?_
  refine aw_getR X (sX7_0 a1 h_a1) fX7_40 rfl dX7_copyFrom_185 ?_
  refine aw_iconst X dX7_copyFrom_188 ?_
  refine aw_aload_n X 0 dX7_copyFrom_189 rfl rfl ?_
  refine aw_getR X (sX7_0 a0 h_a0) fX7_40 rfl dX7_copyFrom_190 ?_
  refine aw_iconst X dX7_copyFrom_193 ?_
  refine aw_bipush X dX7_copyFrom_194 (by decide) ?_
  refine aw_cpyI X cX7_71 (sX7_10 a1 h_a1) (sX7_10 a0 h_a0) (z_lit (x := 0) (by decide)) (z_lit (x := 0) (by decide)) (z_lit (x := 7) (by decide)) (by decide) (by decide) (by decide) (by decide) (by decide) ⟨(Nat.le_of_ble_eq_true rfl), (Nat.le_of_ble_eq_true rfl)⟩ dX7_copyFrom_196 ?_
  refine aw_aload_n X 1 dX7_copyFrom_199 rfl rfl ?_
  refine aw_getR X (sX7_0 a1 h_a1) fX7_43 rfl dX7_copyFrom_200 ?_
  refine aw_iconst X dX7_copyFrom_203 ?_
  refine aw_aload_n X 0 dX7_copyFrom_204 rfl rfl ?_
  refine aw_getR X (sX7_0 a0 h_a0) fX7_43 rfl dX7_copyFrom_205 ?_
  refine aw_iconst X dX7_copyFrom_208 ?_
  refine aw_bipush X dX7_copyFrom_209 (by decide) ?_
  refine aw_cpyI X cX7_71 (sX7_11 a1 h_a1) (sX7_11 a0 h_a0) (z_lit (x := 0) (by decide)) (z_lit (x := 0) (by decide)) (z_lit (x := 7) (by decide)) (by decide) (by decide) (by decide) (by decide) (by decide) ⟨(Nat.le_of_ble_eq_true rfl), (Nat.le_of_ble_eq_true rfl)⟩ dX7_copyFrom_211 ?_
  refine aw_aload_n X 1 dX7_copyFrom_214 rfl rfl ?_
  refine aw_getR X (sX7_0 a1 h_a1) fX7_46 rfl dX7_copyFrom_215 ?_
  refine aw_iconst X dX7_copyFrom_218 ?_
  refine aw_aload_n X 0 dX7_copyFrom_219 rfl rfl ?_
  refine aw_getR X (sX7_0 a0 h_a0) fX7_46 rfl dX7_copyFrom_220 ?_
  refine aw_iconst X dX7_copyFrom_223 ?_
  refine aw_bipush X dX7_copyFrom_224 (by decide) ?_
  refine aw_cpyI X cX7_71 (sX7_12 a1 h_a1) (sX7_12 a0 h_a0) (z_lit (x := 0) (by decide)) (z_lit (x := 0) (by decide)) (z_lit (x := 7) (by decide)) (by decide) (by decide) (by decide) (by decide) (by decide) ⟨(Nat.le_of_ble_eq_true rfl), (Nat.le_of_ble_eq_true rfl)⟩ dX7_copyFrom_226 ?_
  obtain rfl := Option.some.inj hf
  exact aw_vret X trivial hr rfl dX7_copyFrom_229
-- SpeedDesk.bitOf(II)I
section S_X11_bitOf
variable {p : Program} {l : Launch} {e : Env} {s : State} {m : MethodId} {args : Array Value} {below : List Frame} {meth : Method} {c : Code} {D : va_G} {cA : Nat → ClassId} {sa ad : Nat → Nat} {bs : Nat} {q : Int}

end S_X11_bitOf
set_option maxHeartbeats 4000000 in
set_option maxRecDepth 100000 in
theorem C_X11_bitOf (l : Launch) (D : va_G) (cA : Nat → ClassId) (sa ad : Nat → Nat) (bs : Nat) (v0 : Int) (c_v0 : Z_I v0) (v1 : Int) (c_v1 : Z_I v1) (σ : Nat → Nat → Int) (q : Int) (hf : f_X11_bitOf v0 v1 σ = some q) : AM l D cA sa ad bs 788 SHp yX11_bitOf cX11_bitOf 2 (some .int) 0 [z_i v0, z_i v1] σ (some (z_i q)) (Z_I q) σ := by
  refine am_of (by decide +kernel) (Nat.le_of_ble_eq_true rfl) (fun p e s m args below meth c X hr => ?_)
  refine aw_lv (lv' := [(0, z_i v0), (1, z_i v1)]) rfl ?_
  unfold f_X11_bitOf at hf
  refine aw_iload_n X 1 dX11_bitOf_0 rfl rfl ?_
  refine aw_if_lt X (tgt := 10) c_v1 dX11_bitOf_1 (by decide) (fun h1 => ?_) (fun h1 => ?_)
  · rw [if_pos h1] at hf
    refine aw_iconst X dX11_bitOf_10 ?_
    refine aw_goto X (tgt := 19) dX11_bitOf_11 (by decide) ?_
    obtain rfl := Option.some.inj hf
    exact aw_iret X (z_lit (x := 0) (by decide)) hr rfl dX11_bitOf_19
  · rw [if_neg h1] at hf
    refine aw_iload_n X 1 dX11_bitOf_4 rfl rfl ?_
    refine aw_bipush X dX11_bitOf_5 (by decide) ?_
    refine aw_icmp_le X (tgt := 14) c_v1 (z_lit (x := 31) (by decide)) dX11_bitOf_7 (by decide) (fun h2 => ?_) (fun h2 => ?_)
    · rw [if_pos h2] at hf
      refine aw_iload_n X 0 dX11_bitOf_14 rfl rfl ?_
      refine aw_iload_n X 1 dX11_bitOf_15 rfl rfl ?_
      refine aw_iushr X dX11_bitOf_16 ?_
      refine aw_iconst X dX11_bitOf_17 ?_
      refine aw_iand X dX11_bitOf_18 ?_
      obtain rfl := Option.some.inj hf
      exact aw_iret X (z_and_in _ _) hr rfl dX11_bitOf_19
    · rw [if_neg h2] at hf
      refine aw_iconst X dX11_bitOf_10 ?_
      refine aw_goto X (tgt := 19) dX11_bitOf_11 (by decide) ?_
      obtain rfl := Option.some.inj hf
      exact aw_iret X (z_lit (x := 0) (by decide)) hr rfl dX11_bitOf_19
-- SpeedDesk$State.isStopped(I)Z
section S_X7_isStopped
variable {p : Program} {l : Launch} {e : Env} {s : State} {m : MethodId} {args : Array Value} {below : List Frame} {meth : Method} {c : Code} {D : va_G} {cA : Nat → ClassId} {sa ad : Nat → Nat} {bs : Nat} {q : Int}

end S_X7_isStopped
set_option maxHeartbeats 4000000 in
set_option maxRecDepth 100000 in
theorem C_X7_isStopped (l : Launch) (D : va_G) (cA : Nat → ClassId) (sa ad : Nat → Nat) (bs : Nat) (a0 : Nat) (h_a0 : a0 ∈ ax_iX7) (v1 : Int) (c_v1 : Z_I v1) (σ : Nat → Nat → Int) (q : Int) (hf : f_X7_isStopped a0 v1 σ = some q) : AM l D cA sa ad bs 788 SHp yX7_isStopped cX7_isStopped 2 (some .boolean) 1 [.ref (ad a0), z_i v1] σ (some (z_i q)) (q = 0 ∨ q = 1) σ := by
  refine am_of (by decide +kernel) (Nat.le_of_ble_eq_true rfl) (fun p e s m args below meth c X hr => ?_)
  refine aw_lv (lv' := [(0, .ref (ad a0)), (1, z_i v1)]) rfl ?_
  unfold f_X7_isStopped at hf
  refine aw_aload_n X 0 dX7_isStopped_0 rfl rfl ?_
  refine aw_getI X (sX7_0 a0 h_a0) fX7_65 rfl dX7_isStopped_1 (fun c1 => ?_)
  refine aw_iload_n X 1 dX7_isStopped_4 rfl rfl ?_
  obtain ⟨q2, e3, hf⟩ := z_bd hf
  refine aw_callN X [z_i (σ a0 5), z_i v1] [] [z_i q2] cX7_77 (C_X11_bitOf l D cA sa ad bs (σ a0 5) c1 v1 c_v1 σ q2 e3) rfl ⟨(Nat.le_of_ble_eq_true rfl), (Nat.le_of_ble_eq_true rfl), (Nat.le_of_ble_eq_true rfl), (Nat.le_of_ble_eq_true rfl)⟩ rfl (Nat.le_of_ble_eq_true rfl) rfl dX7_isStopped_5 (fun p4 => ?_)
  refine aw_iconst X dX7_isStopped_8 ?_
  refine aw_icmp_ne X (tgt := 16) p4 (z_lit (x := 1) (by decide)) dX7_isStopped_9 (by decide) (fun h5 => ?_) (fun h5 => ?_)
  · rw [if_neg h5] at hf
    refine aw_iconst X dX7_isStopped_16 ?_
    obtain rfl := Option.some.inj hf
    exact aw_zret X (Or.inl rfl) hr (Or.inl rfl) rfl dX7_isStopped_17
  · rw [if_pos h5] at hf
    refine aw_iconst X dX7_isStopped_12 ?_
    refine aw_goto X (tgt := 17) dX7_isStopped_13 (by decide) ?_
    obtain rfl := Option.some.inj hf
    exact aw_zret X (Or.inr rfl) hr (Or.inr rfl) rfl dX7_isStopped_17
-- SpeedDesk$State.isAsleep(I)Z
section S_X7_isAsleep
variable {p : Program} {l : Launch} {e : Env} {s : State} {m : MethodId} {args : Array Value} {below : List Frame} {meth : Method} {c : Code} {D : va_G} {cA : Nat → ClassId} {sa ad : Nat → Nat} {bs : Nat} {q : Int}

end S_X7_isAsleep
set_option maxHeartbeats 4000000 in
set_option maxRecDepth 100000 in
theorem C_X7_isAsleep (l : Launch) (D : va_G) (cA : Nat → ClassId) (sa ad : Nat → Nat) (bs : Nat) (a0 : Nat) (h_a0 : a0 ∈ ax_iX7) (v1 : Int) (c_v1 : Z_I v1) (σ : Nat → Nat → Int) (q : Int) (hf : f_X7_isAsleep a0 v1 σ = some q) : AM l D cA sa ad bs 788 SHp yX7_isAsleep cX7_isAsleep 2 (some .boolean) 1 [.ref (ad a0), z_i v1] σ (some (z_i q)) (q = 0 ∨ q = 1) σ := by
  refine am_of (by decide +kernel) (Nat.le_of_ble_eq_true rfl) (fun p e s m args below meth c X hr => ?_)
  refine aw_lv (lv' := [(0, .ref (ad a0)), (1, z_i v1)]) rfl ?_
  unfold f_X7_isAsleep at hf
  refine aw_aload_n X 0 dX7_isAsleep_0 rfl rfl ?_
  refine aw_getI X (sX7_0 a0 h_a0) fX7_68 rfl dX7_isAsleep_1 (fun c1 => ?_)
  refine aw_iload_n X 1 dX7_isAsleep_4 rfl rfl ?_
  obtain ⟨q2, e3, hf⟩ := z_bd hf
  refine aw_callN X [z_i (σ a0 6), z_i v1] [] [z_i q2] cX7_77 (C_X11_bitOf l D cA sa ad bs (σ a0 6) c1 v1 c_v1 σ q2 e3) rfl ⟨(Nat.le_of_ble_eq_true rfl), (Nat.le_of_ble_eq_true rfl), (Nat.le_of_ble_eq_true rfl), (Nat.le_of_ble_eq_true rfl)⟩ rfl (Nat.le_of_ble_eq_true rfl) rfl dX7_isAsleep_5 (fun p4 => ?_)
  refine aw_iconst X dX7_isAsleep_8 ?_
  refine aw_icmp_ne X (tgt := 16) p4 (z_lit (x := 1) (by decide)) dX7_isAsleep_9 (by decide) (fun h5 => ?_) (fun h5 => ?_)
  · rw [if_neg h5] at hf
    refine aw_iconst X dX7_isAsleep_16 ?_
    obtain rfl := Option.some.inj hf
    exact aw_zret X (Or.inl rfl) hr (Or.inl rfl) rfl dX7_isAsleep_17
  · rw [if_pos h5] at hf
    refine aw_iconst X dX7_isAsleep_12 ?_
    refine aw_goto X (tgt := 17) dX7_isAsleep_13 (by decide) ?_
    obtain rfl := Option.some.inj hf
    exact aw_zret X (Or.inr rfl) hr (Or.inr rfl) rfl dX7_isAsleep_17
-- SpeedDesk$State.hasAsk(I)Z
section S_X7_hasAsk
variable {p : Program} {l : Launch} {e : Env} {s : State} {m : MethodId} {args : Array Value} {below : List Frame} {meth : Method} {c : Code} {D : va_G} {cA : Nat → ClassId} {sa ad : Nat → Nat} {bs : Nat} {q : Int}

end S_X7_hasAsk
set_option maxHeartbeats 4000000 in
set_option maxRecDepth 100000 in
theorem C_X7_hasAsk (l : Launch) (D : va_G) (cA : Nat → ClassId) (sa ad : Nat → Nat) (bs : Nat) (a0 : Nat) (h_a0 : a0 ∈ ax_iX7) (v1 : Int) (c_v1 : Z_I v1) (σ : Nat → Nat → Int) (q : Int) (hf : f_X7_hasAsk a0 v1 σ = some q) : AM l D cA sa ad bs 788 SHp yX7_hasAsk cX7_hasAsk 2 (some .boolean) 0 [.ref (ad a0), z_i v1] σ (some (z_i q)) (q = 0 ∨ q = 1) σ := by
  refine am_of (by decide +kernel) (Nat.le_of_ble_eq_true rfl) (fun p e s m args below meth c X hr => ?_)
  refine aw_lv (lv' := [(0, .ref (ad a0)), (1, z_i v1)]) rfl ?_
  unfold f_X7_hasAsk at hf
  refine aw_iload_n X 1 dX7_hasAsk_0 rfl rfl ?_
  refine aw_if_lt X (tgt := 16) c_v1 dX7_hasAsk_1 (by decide) (fun h1 => ?_) (fun h1 => ?_)
  · rw [if_pos h1] at hf
    refine aw_iconst X dX7_hasAsk_16 ?_
    obtain rfl := Option.some.inj hf
    exact aw_zret X (Or.inl rfl) hr (Or.inl rfl) rfl dX7_hasAsk_17
  · rw [if_neg h1] at hf
    refine aw_iload_n X 1 dX7_hasAsk_4 rfl rfl ?_
    refine aw_aload_n X 0 dX7_hasAsk_5 rfl rfl ?_
    refine aw_getI X (sX7_0 a0 h_a0) fX7_62 rfl dX7_hasAsk_6 (fun c2 => ?_)
    refine aw_icmp_ge X (tgt := 16) c_v1 c2 dX7_hasAsk_9 (by decide) (fun h3 => ?_) (fun h3 => ?_)
    · rw [if_pos h3] at hf
      refine aw_iconst X dX7_hasAsk_16 ?_
      obtain rfl := Option.some.inj hf
      exact aw_zret X (Or.inl rfl) hr (Or.inl rfl) rfl dX7_hasAsk_17
    · rw [if_neg h3] at hf
      refine aw_iconst X dX7_hasAsk_12 ?_
      refine aw_goto X (tgt := 17) dX7_hasAsk_13 (by decide) ?_
      obtain rfl := Option.some.inj hf
      exact aw_zret X (Or.inr rfl) hr (Or.inr rfl) rfl dX7_hasAsk_17
-- SpeedDesk$State.askOf(JI)I
section S_X7_askOf
variable {p : Program} {l : Launch} {e : Env} {s : State} {m : MethodId} {args : Array Value} {below : List Frame} {meth : Method} {c : Code} {D : va_G} {cA : Nat → ClassId} {sa ad : Nat → Nat} {bs : Nat} {q : Int}
set_option maxHeartbeats 4000000 in
set_option maxRecDepth 100000 in
theorem A_X7_askOf_3 (X : AX p s m args meth c D cA sa bs cX7_askOf 5 RX7) (hr : meth.sig.returnType = (some .int)) (σ : Nat → Nat → Int) : ∀ (k : Nat) (a0 : Nat) (h_a0 : a0 ∈ ax_iX7) (v1 : Int) (c_v1 : Z_L v1) (v3 : Int) (c_v3 : Z_I v3) (v4 : Int) (c_v4 : Z_I v4), f_X7_askOf_3 k a0 v1 v3 v4 σ = some q → AW p l e (ax_rm 0 0 0) s m args below meth c D cA ad bs 788 SHp 0 0 (ax_MQ below args s D cA ad bs 788 SHp 0 0 (some (z_i q)) (Z_I q) σ) 5 3 [(0, .ref (ad a0)), (1, z_v v1), (3, z_i v3), (4, z_i v4)] [] σ := by
  intro k
  induction k with
  | zero =>
    intro a0 h_a0 v1 c_v1 v3 c_v3 v4 c_v4 hf
    unfold f_X7_askOf_3 at hf
    cases hf
  | succ k ih =>
    intro a0 h_a0 v1 c_v1 v3 c_v3 v4 c_v4 hf
    unfold f_X7_askOf_3 at hf
    refine aw_iload X 3 dX7_askOf_3 rfl ?_
    refine aw_aload_n X 0 dX7_askOf_5 rfl rfl ?_
    refine aw_getI X (sX7_0 a0 h_a0) fX7_62 rfl dX7_askOf_6 (fun c1 => ?_)
    refine aw_icmp_ge X (tgt := 44) c_v4 c1 dX7_askOf_9 (by decide) (fun h2 => ?_) (fun h2 => ?_)
    · rw [if_pos h2] at hf
      refine aw_iconst X dX7_askOf_44 ?_
      obtain rfl := Option.some.inj hf
      exact aw_iret X (z_lit (x := (-1)) (by decide)) hr rfl dX7_askOf_45
    · rw [if_neg h2] at hf
      refine aw_aload_n X 0 dX7_askOf_12 rfl rfl ?_
      refine aw_getR X (sX7_0 a0 h_a0) fX7_36 rfl dX7_askOf_13 ?_
      refine aw_iload X 3 dX7_askOf_16 rfl ?_
      obtain ⟨g3, hf⟩ := z_gd hf
      refine aw_lald X (j := v4.toNat) (sX7_9 a0 h_a0) c_v4 g3.1 g3.2 rfl dX7_askOf_18 (fun c4 => ?_)
      refine aw_lload_n X 1 dX7_askOf_19 rfl rfl ?_
      refine aw_lcmp X c4 c_v1 dX7_askOf_20 ?_
      refine aw_if_ne X (tgt := 38) (z_cmp_in _ _) dX7_askOf_21 (by decide) (fun h5 => ?_) (fun h5 => ?_)
      · rw [if_neg h5] at hf
        refine aw_iinc X 3 [(4, z_i (z_w (v4 + 1))), (0, .ref (ad a0)), (1, z_v v1), (3, z_i v3)] dX7_askOf_38 rfl (by decide) rfl ?_
        refine aw_goto X (tgt := 3) dX7_askOf_41 (by decide) ?_
        refine aw_sub [1, 2, 3, 0] rfl ?_
        exact ih a0 h_a0 v1 c_v1 v3 c_v3 (z_w (v4 + 1)) (z_w_in _) hf
      · rw [if_pos h5] at hf
        refine aw_aload_n X 0 dX7_askOf_24 rfl rfl ?_
        refine aw_getR X (sX7_0 a0 h_a0) fX7_40 rfl dX7_askOf_25 ?_
        refine aw_iload X 3 dX7_askOf_28 rfl ?_
        obtain ⟨g6, hf⟩ := z_gd hf
        refine aw_iald X (j := v4.toNat) (sX7_10 a0 h_a0) c_v4 g6.1 g6.2 rfl dX7_askOf_30 (fun c7 => ?_)
        refine aw_iload_n X 2 dX7_askOf_31 rfl rfl ?_
        refine aw_icmp_ne X (tgt := 38) c7 c_v3 dX7_askOf_32 (by decide) (fun h8 => ?_) (fun h8 => ?_)
        · rw [if_neg h8] at hf
          refine aw_iinc X 3 [(4, z_i (z_w (v4 + 1))), (0, .ref (ad a0)), (1, z_v v1), (3, z_i v3)] dX7_askOf_38 rfl (by decide) rfl ?_
          refine aw_goto X (tgt := 3) dX7_askOf_41 (by decide) ?_
          refine aw_sub [1, 2, 3, 0] rfl ?_
          exact ih a0 h_a0 v1 c_v1 v3 c_v3 (z_w (v4 + 1)) (z_w_in _) hf
        · rw [if_pos h8] at hf
          refine aw_iload X 3 dX7_askOf_35 rfl ?_
          obtain rfl := Option.some.inj hf
          exact aw_iret X c_v4 hr rfl dX7_askOf_37
end S_X7_askOf
set_option maxHeartbeats 4000000 in
set_option maxRecDepth 100000 in
theorem C_X7_askOf (l : Launch) (D : va_G) (cA : Nat → ClassId) (sa ad : Nat → Nat) (bs : Nat) (a0 : Nat) (h_a0 : a0 ∈ ax_iX7) (v1 : Int) (c_v1 : Z_L v1) (v3 : Int) (c_v3 : Z_I v3) (σ : Nat → Nat → Int) (q : Int) (hf : f_X7_askOf a0 v1 v3 σ = some q) : AM l D cA sa ad bs 788 SHp yX7_askOf cX7_askOf 5 (some .int) 0 [.ref (ad a0), z_v v1, z_i v3] σ (some (z_i q)) (Z_I q) σ := by
  refine am_of (by decide +kernel) (Nat.le_of_ble_eq_true rfl) (fun p e s m args below meth c X hr => ?_)
  refine aw_lv (lv' := [(0, .ref (ad a0)), (1, z_v v1), (3, z_i v3)]) rfl ?_
  unfold f_X7_askOf at hf
  refine aw_iconst X dX7_askOf_0 ?_
  refine aw_istore X [(4, z_i 0), (0, .ref (ad a0)), (1, z_v v1), (3, z_i v3)] dX7_askOf_1 (by decide) rfl ?_
  refine aw_sub [1, 2, 3, 0] rfl ?_
  exact A_X7_askOf_3 X hr σ 100000 a0 h_a0 v1 c_v1 v3 c_v3 0 (z_lit (x := 0) (by decide)) hf
