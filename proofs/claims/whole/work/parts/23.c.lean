-- SpeedDesk$State.tell(JIII)I
section S_X7_tell
variable {p : Program} {l : Launch} {e : Env} {s : State} {m : MethodId} {args : Array Value} {below : List Frame} {meth : Method} {c : Code} {D : va_G} {cA : Nat → ClassId} {sa ad : Nat → Nat} {bs : Nat} {q : (Int × (Nat → Nat → Int))}
set_option maxHeartbeats 4000000 in
set_option maxRecDepth 100000 in
theorem A_X7_tell_44 (X : AX p s m args meth c D cA sa bs cX7_tell 7 RX7) (hr : meth.sig.returnType = (some .int)) (a0 : Nat) (h_a0 : a0 ∈ ax_iX7) (v1 : Int) (c_v1 : Z_L v1) (v3 : Int) (c_v3 : Z_I v3) (v4 : Int) (c_v4 : Z_I v4) (v5 : Int) (c_v5 : Z_I v5) (v6 : Int) (c_v6 : Z_I v6) (σ : Nat → Nat → Int) (hf : f_X7_tell_44 a0 v1 v3 v4 v5 v6 σ = some q) : AW p l e (ax_rm 1 0 0) s m args below meth c D cA ad bs 788 SHp 0 0 (ax_MQ below args s D cA ad bs 788 SHp 0 0 (some (z_i q.1)) (Z_I q.1) q.2) 7 44 [(0, .ref (ad a0)), (1, z_v v1), (3, z_i v3), (4, z_i v4), (5, z_i v5), (6, z_i v6)] [] σ := by
  unfold f_X7_tell_44 at hf
  refine aw_aload_n X 0 dX7_tell_44 rfl rfl ?_
  refine aw_getR X (sX7_0 a0 h_a0) fX7_36 rfl dX7_tell_45 ?_
  refine aw_iload X 5 dX7_tell_48 rfl ?_
  refine aw_lload_n X 1 dX7_tell_50 rfl rfl ?_
  obtain ⟨g9, hf⟩ := z_gd hf
  refine aw_last X (j := v6.toNat) (sX7_9 a0 h_a0) c_v6 g9.1 g9.2 rfl c_v1 dX7_tell_51 ?_
  refine aw_aload_n X 0 dX7_tell_52 rfl rfl ?_
  refine aw_getR X (sX7_0 a0 h_a0) fX7_40 rfl dX7_tell_53 ?_
  refine aw_iload X 5 dX7_tell_56 rfl ?_
  refine aw_iload_n X 2 dX7_tell_58 rfl rfl ?_
  obtain ⟨g10, hf⟩ := z_gd hf
  refine aw_iast X (j := v6.toNat) (sX7_10 a0 h_a0) c_v6 g10.1 g10.2 rfl c_v3 dX7_tell_59 ?_
  refine aw_aload_n X 0 dX7_tell_60 rfl rfl ?_
  refine aw_getR X (sX7_0 a0 h_a0) fX7_43 rfl dX7_tell_61 ?_
  refine aw_iload X 5 dX7_tell_64 rfl ?_
  refine aw_iload X 3 dX7_tell_66 rfl ?_
  obtain ⟨g11, hf⟩ := z_gd hf
  refine aw_iast X (j := v6.toNat) (sX7_11 a0 h_a0) c_v6 g11.1 g11.2 rfl c_v4 dX7_tell_68 ?_
  refine aw_aload_n X 0 dX7_tell_69 rfl rfl ?_
  refine aw_getR X (sX7_0 a0 h_a0) fX7_46 rfl dX7_tell_70 ?_
  refine aw_iload X 5 dX7_tell_73 rfl ?_
  refine aw_iload X 4 dX7_tell_75 rfl ?_
  obtain ⟨g12, hf⟩ := z_gd hf
  refine aw_iast X (j := v6.toNat) (sX7_12 a0 h_a0) c_v6 g12.1 g12.2 rfl c_v5 dX7_tell_77 ?_
  refine aw_iload X 5 dX7_tell_78 rfl ?_
  obtain rfl := Option.some.inj hf
  exact aw_iret X c_v6 hr rfl dX7_tell_80
end S_X7_tell
set_option maxHeartbeats 4000000 in
set_option maxRecDepth 100000 in
theorem C_X7_tell (l : Launch) (D : va_G) (cA : Nat → ClassId) (sa ad : Nat → Nat) (bs : Nat) (a0 : Nat) (h_a0 : a0 ∈ ax_iX7) (v1 : Int) (c_v1 : Z_L v1) (v3 : Int) (c_v3 : Z_I v3) (v4 : Int) (c_v4 : Z_I v4) (v5 : Int) (c_v5 : Z_I v5) (σ : Nat → Nat → Int) (q : (Int × (Nat → Nat → Int))) (hf : f_X7_tell a0 v1 v3 v4 v5 σ = some q) : AM l D cA sa ad bs 788 SHp yX7_tell cX7_tell 7 (some .int) 1 [.ref (ad a0), z_v v1, z_i v3, z_i v4, z_i v5] σ (some (z_i q.1)) (Z_I q.1) q.2 := by
  refine am_of (by decide +kernel) (Nat.le_of_ble_eq_true rfl) (fun p e s m args below meth c X hr => ?_)
  refine aw_lv (lv' := [(0, .ref (ad a0)), (1, z_v v1), (3, z_i v3), (4, z_i v4), (5, z_i v5)]) rfl ?_
  unfold f_X7_tell at hf
  refine aw_aload_n X 0 dX7_tell_0 rfl rfl ?_
  refine aw_lload_n X 1 dX7_tell_1 rfl rfl ?_
  refine aw_iload_n X 2 dX7_tell_2 rfl rfl ?_
  obtain ⟨q1, e2, hf⟩ := z_bd hf
  refine aw_callV X [z_v v1, z_i v3] [] [z_i q1] cX7_81 (sX7_0 a0 h_a0) ciX7 (C_X7_askOf l D cA sa ad bs a0 h_a0 v1 c_v1 v3 c_v3 σ q1 e2) rfl ⟨(Nat.le_of_ble_eq_true rfl), (Nat.le_of_ble_eq_true rfl), (Nat.le_of_ble_eq_true rfl), (Nat.le_of_ble_eq_true rfl)⟩ rfl (Nat.le_of_ble_eq_true rfl) rfl dX7_tell_3 (fun p3 => ?_)
  refine aw_istore X [(6, z_i q1), (0, .ref (ad a0)), (1, z_v v1), (3, z_i v3), (4, z_i v4), (5, z_i v5)] dX7_tell_6 (by decide) rfl ?_
  refine aw_iload X 0 dX7_tell_8 rfl ?_
  refine aw_iconst X dX7_tell_10 ?_
  refine aw_icmp_ne X (tgt := 44) p3 (z_lit (x := (-1)) (by decide)) dX7_tell_11 (by decide) (fun h4 => ?_) (fun h4 => ?_)
  · rw [if_neg h4] at hf
    refine aw_sub [1, 2, 3, 4, 5, 0] rfl ?_
    exact A_X7_tell_44 X hr a0 h_a0 v1 c_v1 v3 c_v3 v4 c_v4 v5 c_v5 q1 p3 σ hf
  · rw [if_pos h4] at hf
    refine aw_aload_n X 1 dX7_tell_14 rfl rfl ?_
    refine aw_getI X (sX7_0 a0 h_a0) fX7_62 rfl dX7_tell_15 (fun c5 => ?_)
    refine aw_aload_n X 1 dX7_tell_18 rfl rfl ?_
    refine aw_getR X (sX7_0 a0 h_a0) fX7_36 rfl dX7_tell_19 ?_
    refine aw_alenL X (x := 7) (sX7_9 a0 h_a0) rfl dX7_tell_22 ?_
    refine aw_icmp_lt X (tgt := 28) c5 (z_lit (x := 7) (by decide)) dX7_tell_23 (by decide) (fun h6 => ?_) (fun h6 => ?_)
    · rw [if_pos h6] at hf
      refine aw_aload_n X 1 dX7_tell_28 rfl rfl ?_
      refine aw_getI X (sX7_0 a0 h_a0) fX7_62 rfl dX7_tell_29 (fun c7 => ?_)
      refine aw_istore X [(6, z_i (σ a0 4)), (0, .ref (ad a0)), (1, z_v v1), (3, z_i v3), (4, z_i v4), (5, z_i v5)] dX7_tell_32 (by decide) rfl ?_
      refine aw_aload_n X 1 dX7_tell_34 rfl rfl ?_
      refine aw_dup X dX7_tell_35 rfl ?_
      refine aw_getI X (sX7_0 a0 h_a0) fX7_62 rfl dX7_tell_36 (fun c8 => ?_)
      refine aw_iconst X dX7_tell_39 ?_
      refine aw_iadd X dX7_tell_40 ?_
      refine aw_putI X (sX7_0 a0 h_a0) pX7_62 rfl (z_w_in _) dX7_tell_41 ?_
      refine aw_sub [1, 2, 3, 4, 5, 0] rfl ?_
      exact A_X7_tell_44 X hr a0 h_a0 v1 c_v1 v3 c_v3 v4 c_v4 v5 c_v5 (σ a0 4) c7 (u2 σ a0 4 (z_w ((σ a0 4) + 1))) hf
    · rw [if_neg h6] at hf
      refine aw_iconst X dX7_tell_26 ?_
      obtain rfl := Option.some.inj hf
      exact aw_iret X (z_lit (x := (-1)) (by decide)) hr rfl dX7_tell_27
-- SpeedDesk$State.forgetAsk(I)V
section S_X7_forgetAsk
variable {p : Program} {l : Launch} {e : Env} {s : State} {m : MethodId} {args : Array Value} {below : List Frame} {meth : Method} {c : Code} {D : va_G} {cA : Nat → ClassId} {sa ad : Nat → Nat} {bs : Nat} {q : (Nat → Nat → Int)}
set_option maxHeartbeats 4000000 in
set_option maxRecDepth 100000 in
theorem A_X7_forgetAsk_21 (X : AX p s m args meth c D cA sa bs cX7_forgetAsk 3 RX7) (hr : meth.sig.returnType = none) : ∀ (k : Nat) (a0 : Nat) (h_a0 : a0 ∈ ax_iX7) (v2 : Int) (c_v2 : Z_I v2) (σ : Nat → Nat → Int), f_X7_forgetAsk_21 k a0 v2 σ = some q → AW p l e (ax_rm 1 0 0) s m args below meth c D cA ad bs 788 SHp 0 0 (ax_MQ below args s D cA ad bs 788 SHp 0 0 none True q) 3 21 [(0, .ref (ad a0)), (2, z_i v2)] [] σ := by
  intro k
  induction k with
  | zero =>
    intro a0 h_a0 v2 c_v2 σ hf
    unfold f_X7_forgetAsk_21 at hf
    cases hf
  | succ k ih =>
    intro a0 h_a0 v2 c_v2 σ hf
    unfold f_X7_forgetAsk_21 at hf
    refine aw_iload_n X 1 dX7_forgetAsk_21 rfl rfl ?_
    refine aw_aload_n X 0 dX7_forgetAsk_22 rfl rfl ?_
    refine aw_getI X (sX7_0 a0 h_a0) fX7_62 rfl dX7_forgetAsk_23 (fun c6 => ?_)
    refine aw_icmp_ge X (tgt := 91) c_v2 c6 dX7_forgetAsk_26 (by decide) (fun h7 => ?_) (fun h7 => ?_)
    · rw [if_pos h7] at hf
      obtain rfl := Option.some.inj hf
      exact aw_vret X trivial hr rfl dX7_forgetAsk_91
    · rw [if_neg h7] at hf
      refine aw_aload_n X 0 dX7_forgetAsk_29 rfl rfl ?_
      refine aw_getR X (sX7_0 a0 h_a0) fX7_36 rfl dX7_forgetAsk_30 ?_
      refine aw_iload_n X 1 dX7_forgetAsk_33 rfl rfl ?_
      refine aw_aload_n X 0 dX7_forgetAsk_34 rfl rfl ?_
      refine aw_getR X (sX7_0 a0 h_a0) fX7_36 rfl dX7_forgetAsk_35 ?_
      refine aw_iload_n X 1 dX7_forgetAsk_38 rfl rfl ?_
      refine aw_iconst X dX7_forgetAsk_39 ?_
      refine aw_iadd X dX7_forgetAsk_40 ?_
      obtain ⟨g8, hf⟩ := z_gd hf
      refine aw_lald X (j := (z_w (v2 + 1)).toNat) (sX7_9 a0 h_a0) (z_w_in _) g8.1 g8.2 rfl dX7_forgetAsk_41 (fun c9 => ?_)
      obtain ⟨g10, hf⟩ := z_gd hf
      refine aw_last X (j := v2.toNat) (sX7_9 a0 h_a0) c_v2 g10.1 g10.2 rfl c9 dX7_forgetAsk_42 ?_
      refine aw_aload_n X 0 dX7_forgetAsk_43 rfl rfl ?_
      refine aw_getR X (sX7_0 a0 h_a0) fX7_40 rfl dX7_forgetAsk_44 ?_
      refine aw_iload_n X 1 dX7_forgetAsk_47 rfl rfl ?_
      refine aw_aload_n X 0 dX7_forgetAsk_48 rfl rfl ?_
      refine aw_getR X (sX7_0 a0 h_a0) fX7_40 rfl dX7_forgetAsk_49 ?_
      refine aw_iload_n X 1 dX7_forgetAsk_52 rfl rfl ?_
      refine aw_iconst X dX7_forgetAsk_53 ?_
      refine aw_iadd X dX7_forgetAsk_54 ?_
      obtain ⟨g11, hf⟩ := z_gd hf
      refine aw_iald X (j := (z_w (v2 + 1)).toNat) (sX7_10 a0 h_a0) (z_w_in _) g11.1 g11.2 rfl dX7_forgetAsk_55 (fun c12 => ?_)
      obtain ⟨g13, hf⟩ := z_gd hf
      refine aw_iast X (j := v2.toNat) (sX7_10 a0 h_a0) c_v2 g13.1 g13.2 rfl c12 dX7_forgetAsk_56 ?_
      refine aw_aload_n X 0 dX7_forgetAsk_57 rfl rfl ?_
      refine aw_getR X (sX7_0 a0 h_a0) fX7_43 rfl dX7_forgetAsk_58 ?_
      refine aw_iload_n X 1 dX7_forgetAsk_61 rfl rfl ?_
      refine aw_aload_n X 0 dX7_forgetAsk_62 rfl rfl ?_
      refine aw_getR X (sX7_0 a0 h_a0) fX7_43 rfl dX7_forgetAsk_63 ?_
      refine aw_iload_n X 1 dX7_forgetAsk_66 rfl rfl ?_
      refine aw_iconst X dX7_forgetAsk_67 ?_
      refine aw_iadd X dX7_forgetAsk_68 ?_
      obtain ⟨g14, hf⟩ := z_gd hf
      refine aw_iald X (j := (z_w (v2 + 1)).toNat) (sX7_11 a0 h_a0) (z_w_in _) g14.1 g14.2 rfl dX7_forgetAsk_69 (fun c15 => ?_)
      obtain ⟨g16, hf⟩ := z_gd hf
      refine aw_iast X (j := v2.toNat) (sX7_11 a0 h_a0) c_v2 g16.1 g16.2 rfl c15 dX7_forgetAsk_70 ?_
      refine aw_aload_n X 0 dX7_forgetAsk_71 rfl rfl ?_
      refine aw_getR X (sX7_0 a0 h_a0) fX7_46 rfl dX7_forgetAsk_72 ?_
      refine aw_iload_n X 1 dX7_forgetAsk_75 rfl rfl ?_
      refine aw_aload_n X 0 dX7_forgetAsk_76 rfl rfl ?_
      refine aw_getR X (sX7_0 a0 h_a0) fX7_46 rfl dX7_forgetAsk_77 ?_
      refine aw_iload_n X 1 dX7_forgetAsk_80 rfl rfl ?_
      refine aw_iconst X dX7_forgetAsk_81 ?_
      refine aw_iadd X dX7_forgetAsk_82 ?_
      obtain ⟨g17, hf⟩ := z_gd hf
      refine aw_iald X (j := (z_w (v2 + 1)).toNat) (sX7_12 a0 h_a0) (z_w_in _) g17.1 g17.2 rfl dX7_forgetAsk_83 (fun c18 => ?_)
      obtain ⟨g19, hf⟩ := z_gd hf
      refine aw_iast X (j := v2.toNat) (sX7_12 a0 h_a0) c_v2 g19.1 g19.2 rfl c18 dX7_forgetAsk_84 ?_
      refine aw_iinc X 1 [(2, z_i (z_w (v2 + 1))), (0, .ref (ad a0))] dX7_forgetAsk_85 rfl (by decide) rfl ?_
      refine aw_goto X (tgt := 21) dX7_forgetAsk_88 (by decide) ?_
      refine aw_sub [1, 0] rfl ?_
      exact ih a0 h_a0 (z_w (v2 + 1)) (z_w_in _) (u2 (u2 (u2 (u2 σ (a0 + 9) v2.toNat (σ (a0 + 9) (z_w (v2 + 1)).toNat)) (a0 + 10) v2.toNat ((u2 σ (a0 + 9) v2.toNat (σ (a0 + 9) (z_w (v2 + 1)).toNat)) (a0 + 10) (z_w (v2 + 1)).toNat)) (a0 + 11) v2.toNat ((u2 (u2 σ (a0 + 9) v2.toNat (σ (a0 + 9) (z_w (v2 + 1)).toNat)) (a0 + 10) v2.toNat ((u2 σ (a0 + 9) v2.toNat (σ (a0 + 9) (z_w (v2 + 1)).toNat)) (a0 + 10) (z_w (v2 + 1)).toNat)) (a0 + 11) (z_w (v2 + 1)).toNat)) (a0 + 12) v2.toNat ((u2 (u2 (u2 σ (a0 + 9) v2.toNat (σ (a0 + 9) (z_w (v2 + 1)).toNat)) (a0 + 10) v2.toNat ((u2 σ (a0 + 9) v2.toNat (σ (a0 + 9) (z_w (v2 + 1)).toNat)) (a0 + 10) (z_w (v2 + 1)).toNat)) (a0 + 11) v2.toNat ((u2 (u2 σ (a0 + 9) v2.toNat (σ (a0 + 9) (z_w (v2 + 1)).toNat)) (a0 + 10) v2.toNat ((u2 σ (a0 + 9) v2.toNat (σ (a0 + 9) (z_w (v2 + 1)).toNat)) (a0 + 10) (z_w (v2 + 1)).toNat)) (a0 + 11) (z_w (v2 + 1)).toNat)) (a0 + 12) (z_w (v2 + 1)).toNat)) hf
end S_X7_forgetAsk
set_option maxHeartbeats 4000000 in
set_option maxRecDepth 100000 in
theorem C_X7_forgetAsk (l : Launch) (D : va_G) (cA : Nat → ClassId) (sa ad : Nat → Nat) (bs : Nat) (a0 : Nat) (h_a0 : a0 ∈ ax_iX7) (v1 : Int) (c_v1 : Z_I v1) (σ : Nat → Nat → Int) (q : (Nat → Nat → Int)) (hf : f_X7_forgetAsk a0 v1 σ = some q) : AM l D cA sa ad bs 788 SHp yX7_forgetAsk cX7_forgetAsk 3 none 1 [.ref (ad a0), z_i v1] σ none True q := by
  refine am_of (by decide +kernel) (Nat.le_of_ble_eq_true rfl) (fun p e s m args below meth c X hr => ?_)
  refine aw_lv (lv' := [(0, .ref (ad a0)), (1, z_i v1)]) rfl ?_
  unfold f_X7_forgetAsk at hf
  refine aw_aload_n X 0 dX7_forgetAsk_0 rfl rfl ?_
  refine aw_iload_n X 1 dX7_forgetAsk_1 rfl rfl ?_
  obtain ⟨q1, e2, hf⟩ := z_bd hf
  refine aw_callV X [z_i v1] [] [z_i q1] cX7_85 (sX7_0 a0 h_a0) ciX7 (C_X7_hasAsk l D cA sa ad bs a0 h_a0 v1 c_v1 σ q1 e2) rfl ⟨(Nat.le_of_ble_eq_true rfl), (Nat.le_of_ble_eq_true rfl), (Nat.le_of_ble_eq_true rfl), (Nat.le_of_ble_eq_true rfl)⟩ rfl (Nat.le_of_ble_eq_true rfl) rfl dX7_forgetAsk_2 (fun p3 => ?_)
  refine aw_if_ne X (tgt := 9) (z_zI p3) dX7_forgetAsk_5 (by decide) (fun h4 => ?_) (fun h4 => ?_)
  · rw [if_neg h4] at hf
    refine aw_aload_n X 0 dX7_forgetAsk_9 rfl rfl ?_
    refine aw_dup X dX7_forgetAsk_10 rfl ?_
    refine aw_getI X (sX7_0 a0 h_a0) fX7_62 rfl dX7_forgetAsk_11 (fun c5 => ?_)
    refine aw_iconst X dX7_forgetAsk_14 ?_
    refine aw_isub X dX7_forgetAsk_15 ?_
    refine aw_putI X (sX7_0 a0 h_a0) pX7_62 rfl (z_w_in _) dX7_forgetAsk_16 ?_
    refine aw_iload_n X 1 dX7_forgetAsk_19 rfl rfl ?_
    refine aw_istore_n X [(2, z_i v1), (0, .ref (ad a0)), (1, z_i v1)] dX7_forgetAsk_20 rfl (by decide) rfl ?_
    refine aw_sub [1, 0] rfl ?_
    exact A_X7_forgetAsk_21 X hr 100000 a0 h_a0 v1 c_v1 (u2 σ a0 4 (z_w ((σ a0 4) - 1))) hf
  · rw [if_pos h4] at hf
    obtain rfl := Option.some.inj hf
    exact aw_vret X trivial hr rfl dX7_forgetAsk_8
-- SpeedDesk$State.lowOf(I)I
section S_X7_lowOf
variable {p : Program} {l : Launch} {e : Env} {s : State} {m : MethodId} {args : Array Value} {below : List Frame} {meth : Method} {c : Code} {D : va_G} {cA : Nat → ClassId} {sa ad : Nat → Nat} {bs : Nat} {q : Int}
set_option maxHeartbeats 4000000 in
set_option maxRecDepth 100000 in
theorem A_X7_lowOf_4 (X : AX p s m args meth c D cA sa bs cX7_lowOf 4 RX7) (hr : meth.sig.returnType = (some .int)) (σ : Nat → Nat → Int) : ∀ (k : Nat) (a0 : Nat) (h_a0 : a0 ∈ ax_iX7) (v1 : Int) (c_v1 : Z_I v1) (v2 : Int) (c_v2 : Z_I v2) (v3 : Int) (c_v3 : Z_I v3), f_X7_lowOf_4 k a0 v1 v2 v3 σ = some q → AW p l e (ax_rm 1 0 0) s m args below meth c D cA ad bs 788 SHp 0 0 (ax_MQ below args s D cA ad bs 788 SHp 0 0 (some (z_i q)) (Z_I q) σ) 4 4 [(0, .ref (ad a0)), (1, z_i v1), (2, z_i v2), (3, z_i v3)] [] σ := by
  intro k
  induction k with
  | zero =>
    intro a0 h_a0 v1 c_v1 v2 c_v2 v3 c_v3 hf
    unfold f_X7_lowOf_4 at hf
    cases hf
  | succ k ih =>
    intro a0 h_a0 v1 c_v1 v2 c_v2 v3 c_v3 hf
    unfold f_X7_lowOf_4 at hf
    refine aw_iload_n X 3 dX7_lowOf_4 rfl rfl ?_
    refine aw_aload_n X 0 dX7_lowOf_5 rfl rfl ?_
    refine aw_getI X (sX7_0 a0 h_a0) fX7_62 rfl dX7_lowOf_6 (fun c1 => ?_)
    refine aw_icmp_ge X (tgt := 39) c_v3 c1 dX7_lowOf_9 (by decide) (fun h2 => ?_) (fun h2 => ?_)
    · rw [if_pos h2] at hf
      refine aw_iload_n X 2 dX7_lowOf_39 rfl rfl ?_
      obtain rfl := Option.some.inj hf
      exact aw_iret X c_v2 hr rfl dX7_lowOf_40
    · rw [if_neg h2] at hf
      refine aw_aload_n X 0 dX7_lowOf_12 rfl rfl ?_
      refine aw_getR X (sX7_0 a0 h_a0) fX7_40 rfl dX7_lowOf_13 ?_
      refine aw_iload_n X 3 dX7_lowOf_16 rfl rfl ?_
      obtain ⟨g3, hf⟩ := z_gd hf
      refine aw_iald X (j := v3.toNat) (sX7_10 a0 h_a0) c_v3 g3.1 g3.2 rfl dX7_lowOf_17 (fun c4 => ?_)
      refine aw_iload_n X 1 dX7_lowOf_18 rfl rfl ?_
      refine aw_icmp_ne X (tgt := 33) c4 c_v1 dX7_lowOf_19 (by decide) (fun h5 => ?_) (fun h5 => ?_)
      · rw [if_neg h5] at hf
        refine aw_iinc X 3 [(3, z_i (z_w (v3 + 1))), (0, .ref (ad a0)), (1, z_i v1), (2, z_i v2)] dX7_lowOf_33 rfl (by decide) rfl ?_
        refine aw_goto X (tgt := 4) dX7_lowOf_36 (by decide) ?_
        refine aw_sub [1, 2, 3, 0] rfl ?_
        exact ih a0 h_a0 v1 c_v1 v2 c_v2 (z_w (v3 + 1)) (z_w_in _) hf
      · rw [if_pos h5] at hf
        refine aw_iload_n X 2 dX7_lowOf_22 rfl rfl ?_
        refine aw_aload_n X 0 dX7_lowOf_23 rfl rfl ?_
        refine aw_getR X (sX7_0 a0 h_a0) fX7_43 rfl dX7_lowOf_24 ?_
        refine aw_iload_n X 3 dX7_lowOf_27 rfl rfl ?_
        obtain ⟨g6, hf⟩ := z_gd hf
        refine aw_iald X (j := v3.toNat) (sX7_11 a0 h_a0) c_v3 g6.1 g6.2 rfl dX7_lowOf_28 (fun c7 => ?_)
        refine aw_max X c_v2 c7 cX7_89 ⟨(Nat.le_of_ble_eq_true rfl), (Nat.le_of_ble_eq_true rfl), (Nat.le_of_ble_eq_true rfl), (Nat.le_of_ble_eq_true rfl)⟩ dX7_lowOf_29 ?_
        refine aw_istore_n X [(2, z_i (max v2 (σ (a0 + 11) v3.toNat))), (0, .ref (ad a0)), (1, z_i v1), (3, z_i v3)] dX7_lowOf_32 rfl (by decide) rfl ?_
        refine aw_iinc X 3 [(3, z_i (z_w (v3 + 1))), (2, z_i (max v2 (σ (a0 + 11) v3.toNat))), (0, .ref (ad a0)), (1, z_i v1)] dX7_lowOf_33 rfl (by decide) rfl ?_
        refine aw_goto X (tgt := 4) dX7_lowOf_36 (by decide) ?_
        refine aw_sub [2, 3, 1, 0] rfl ?_
        exact ih a0 h_a0 v1 c_v1 (max v2 (σ (a0 + 11) v3.toNat)) (z_max_in c_v2 c7) (z_w (v3 + 1)) (z_w_in _) hf
end S_X7_lowOf
set_option maxHeartbeats 4000000 in
set_option maxRecDepth 100000 in
theorem C_X7_lowOf (l : Launch) (D : va_G) (cA : Nat → ClassId) (sa ad : Nat → Nat) (bs : Nat) (a0 : Nat) (h_a0 : a0 ∈ ax_iX7) (v1 : Int) (c_v1 : Z_I v1) (σ : Nat → Nat → Int) (q : Int) (hf : f_X7_lowOf a0 v1 σ = some q) : AM l D cA sa ad bs 788 SHp yX7_lowOf cX7_lowOf 4 (some .int) 1 [.ref (ad a0), z_i v1] σ (some (z_i q)) (Z_I q) σ := by
  refine am_of (by decide +kernel) (Nat.le_of_ble_eq_true rfl) (fun p e s m args below meth c X hr => ?_)
  refine aw_lv (lv' := [(0, .ref (ad a0)), (1, z_i v1)]) rfl ?_
  unfold f_X7_lowOf at hf
  refine aw_iconst X dX7_lowOf_0 ?_
  refine aw_istore_n X [(2, z_i 0), (0, .ref (ad a0)), (1, z_i v1)] dX7_lowOf_1 rfl (by decide) rfl ?_
  refine aw_iconst X dX7_lowOf_2 ?_
  refine aw_istore_n X [(3, z_i 0), (2, z_i 0), (0, .ref (ad a0)), (1, z_i v1)] dX7_lowOf_3 rfl (by decide) rfl ?_
  refine aw_sub [2, 3, 1, 0] rfl ?_
  exact A_X7_lowOf_4 X hr σ 100000 a0 h_a0 v1 c_v1 0 (z_lit (x := 0) (by decide)) 0 (z_lit (x := 0) (by decide)) hf
-- SpeedDesk$State.highOf(LSpeedDesk$Chip;I)I
section S_X7_highOf
variable {p : Program} {l : Launch} {e : Env} {s : State} {m : MethodId} {args : Array Value} {below : List Frame} {meth : Method} {c : Code} {D : va_G} {cA : Nat → ClassId} {sa ad : Nat → Nat} {bs : Nat} {q : Int}
set_option maxHeartbeats 4000000 in
set_option maxRecDepth 100000 in
theorem A_X7_highOf_24 (X : AX p s m args meth c D cA sa bs cX7_highOf 5 RX7) (hr : meth.sig.returnType = (some .int)) (σ : Nat → Nat → Int) : ∀ (k : Nat) (a0 : Nat) (h_a0 : a0 ∈ ax_iX7) (v2 : Int) (c_v2 : Z_I v2) (v3 : Int) (c_v3 : Z_I v3) (v4 : Int) (c_v4 : Z_I v4), f_X7_highOf_24 k a0 v2 v3 v4 σ = some q → AW p l e (ax_rm 1 0 0) s m args below meth c D cA ad bs 788 SHp 0 0 (ax_MQ below args s D cA ad bs 788 SHp 0 0 (some (z_i q)) (Z_I q) σ) 5 24 [(0, .ref (ad a0)), (2, z_i v2), (3, z_i v3), (4, z_i v4)] [] σ := by
  intro k
  induction k with
  | zero =>
    intro a0 h_a0 v2 c_v2 v3 c_v3 v4 c_v4 hf
    unfold f_X7_highOf_24 at hf
    cases hf
  | succ k ih =>
    intro a0 h_a0 v2 c_v2 v3 c_v3 v4 c_v4 hf
    unfold f_X7_highOf_24 at hf
    refine aw_iload X 3 dX7_highOf_24 rfl ?_
    refine aw_aload_n X 0 dX7_highOf_26 rfl rfl ?_
    refine aw_getI X (sX7_0 a0 h_a0) fX7_62 rfl dX7_highOf_27 (fun c7 => ?_)
    refine aw_icmp_ge X (tgt := 62) c_v4 c7 dX7_highOf_30 (by decide) (fun h8 => ?_) (fun h8 => ?_)
    · rw [if_pos h8] at hf
      refine aw_iload_n X 2 dX7_highOf_62 rfl rfl ?_
      obtain rfl := Option.some.inj hf
      exact aw_iret X c_v3 hr rfl dX7_highOf_63
    · rw [if_neg h8] at hf
      refine aw_aload_n X 0 dX7_highOf_33 rfl rfl ?_
      refine aw_getR X (sX7_0 a0 h_a0) fX7_40 rfl dX7_highOf_34 ?_
      refine aw_iload X 3 dX7_highOf_37 rfl ?_
      obtain ⟨g9, hf⟩ := z_gd hf
      refine aw_iald X (j := v4.toNat) (sX7_10 a0 h_a0) c_v4 g9.1 g9.2 rfl dX7_highOf_39 (fun c10 => ?_)
      refine aw_iload_n X 1 dX7_highOf_40 rfl rfl ?_
      refine aw_icmp_ne X (tgt := 56) c10 c_v2 dX7_highOf_41 (by decide) (fun h11 => ?_) (fun h11 => ?_)
      · rw [if_neg h11] at hf
        refine aw_iinc X 3 [(4, z_i (z_w (v4 + 1))), (0, .ref (ad a0)), (2, z_i v2), (3, z_i v3)] dX7_highOf_56 rfl (by decide) rfl ?_
        refine aw_goto X (tgt := 24) dX7_highOf_59 (by decide) ?_
        refine aw_sub [1, 2, 3, 0] rfl ?_
        exact ih a0 h_a0 v2 c_v2 v3 c_v3 (z_w (v4 + 1)) (z_w_in _) hf
      · rw [if_pos h11] at hf
        refine aw_iload_n X 2 dX7_highOf_44 rfl rfl ?_
        refine aw_aload_n X 0 dX7_highOf_45 rfl rfl ?_
        refine aw_getR X (sX7_0 a0 h_a0) fX7_46 rfl dX7_highOf_46 ?_
        refine aw_iload X 3 dX7_highOf_49 rfl ?_
        obtain ⟨g12, hf⟩ := z_gd hf
        refine aw_iald X (j := v4.toNat) (sX7_12 a0 h_a0) c_v4 g12.1 g12.2 rfl dX7_highOf_51 (fun c13 => ?_)
        refine aw_min X c_v3 c13 cX7_102 ⟨(Nat.le_of_ble_eq_true rfl), (Nat.le_of_ble_eq_true rfl), (Nat.le_of_ble_eq_true rfl), (Nat.le_of_ble_eq_true rfl)⟩ dX7_highOf_52 ?_
        refine aw_istore_n X [(3, z_i (min v3 (σ (a0 + 12) v4.toNat))), (0, .ref (ad a0)), (2, z_i v2), (4, z_i v4)] dX7_highOf_55 rfl (by decide) rfl ?_
        refine aw_iinc X 3 [(4, z_i (z_w (v4 + 1))), (3, z_i (min v3 (σ (a0 + 12) v4.toNat))), (0, .ref (ad a0)), (2, z_i v2)] dX7_highOf_56 rfl (by decide) rfl ?_
        refine aw_goto X (tgt := 24) dX7_highOf_59 (by decide) ?_
        refine aw_sub [2, 3, 1, 0] rfl ?_
        exact ih a0 h_a0 v2 c_v2 (min v3 (σ (a0 + 12) v4.toNat)) (z_min_in c_v3 c13) (z_w (v4 + 1)) (z_w_in _) hf
end S_X7_highOf
set_option maxHeartbeats 4000000 in
set_option maxRecDepth 100000 in
theorem C_X7_highOf (l : Launch) (D : va_G) (cA : Nat → ClassId) (sa ad : Nat → Nat) (bs : Nat) (a0 : Nat) (h_a0 : a0 ∈ ax_iX7) (a1 : Nat) (h_a1 : a1 ∈ ax_iX1) (v2 : Int) (c_v2 : Z_I v2) (σ : Nat → Nat → Int) (q : Int) (hf : f_X7_highOf a0 a1 v2 σ = some q) : AM l D cA sa ad bs 788 SHp yX7_highOf cX7_highOf 5 (some .int) 1 [.ref (ad a0), .ref (ad a1), z_i v2] σ (some (z_i q)) (Z_I q) σ := by
  refine am_of (by decide +kernel) (Nat.le_of_ble_eq_true rfl) (fun p e s m args below meth c X hr => ?_)
  refine aw_lv (lv' := [(0, .ref (ad a0)), (1, .ref (ad a1)), (2, z_i v2)]) rfl ?_
  unfold f_X7_highOf at hf
  refine aw_aload_n X 1 dX7_highOf_0 rfl rfl ?_
  refine aw_iload_n X 2 dX7_highOf_1 rfl rfl ?_
  obtain ⟨q1, e2, hf⟩ := z_bd hf
  refine aw_callV X [z_i v2] [] [z_i q1] cX7_94 (sX1_0 a1 h_a1) ciX1 (C_X1_hasCluster l D cA sa ad bs a1 h_a1 v2 c_v2 σ q1 e2) rfl ⟨(Nat.le_of_ble_eq_true rfl), (Nat.le_of_ble_eq_true rfl), (Nat.le_of_ble_eq_true rfl), (Nat.le_of_ble_eq_true rfl)⟩ rfl (Nat.le_of_ble_eq_true rfl) rfl dX7_highOf_2 (fun p3 => ?_)
  refine aw_if_eq X (tgt := 19) (z_zI p3) dX7_highOf_5 (by decide) (fun h4 => ?_) (fun h4 => ?_)
  · rw [if_pos h4] at hf
    refine aw_iconst X dX7_highOf_19 ?_
    refine aw_istore_n X [(3, z_i 0), (0, .ref (ad a0)), (1, .ref (ad a1)), (2, z_i v2)] dX7_highOf_20 rfl (by decide) rfl ?_
    refine aw_iconst X dX7_highOf_21 ?_
    refine aw_istore X [(4, z_i 0), (3, z_i 0), (0, .ref (ad a0)), (1, .ref (ad a1)), (2, z_i v2)] dX7_highOf_22 (by decide) rfl ?_
    refine aw_sub [2, 4, 1, 0] rfl ?_
    exact A_X7_highOf_24 X hr σ 100000 a0 h_a0 v2 c_v2 0 (z_lit (x := 0) (by decide)) 0 (z_lit (x := 0) (by decide)) hf
  · rw [if_neg h4] at hf
    refine aw_aload_n X 1 dX7_highOf_8 rfl rfl ?_
    refine aw_getR X (sX1_0 a1 h_a1) fX7_99 rfl dX7_highOf_9 ?_
    refine aw_iload_n X 2 dX7_highOf_12 rfl rfl ?_
    obtain ⟨g5, hf⟩ := z_gd hf
    refine aw_iald X (j := v2.toNat) (sX1_5 a1 h_a1) c_v2 g5.1 g5.2 rfl dX7_highOf_13 (fun c6 => ?_)
    refine aw_iconst X dX7_highOf_14 ?_
    refine aw_isub X dX7_highOf_15 ?_
    refine aw_goto X (tgt := 20) dX7_highOf_16 (by decide) ?_
    refine aw_istore_n X [(3, z_i (z_w ((σ (a1 + 5) v2.toNat) - 1))), (0, .ref (ad a0)), (1, .ref (ad a1)), (2, z_i v2)] dX7_highOf_20 rfl (by decide) rfl ?_
    refine aw_iconst X dX7_highOf_21 ?_
    refine aw_istore X [(4, z_i 0), (3, z_i (z_w ((σ (a1 + 5) v2.toNat) - 1))), (0, .ref (ad a0)), (1, .ref (ad a1)), (2, z_i v2)] dX7_highOf_22 (by decide) rfl ?_
    refine aw_sub [2, 4, 1, 0] rfl ?_
    exact A_X7_highOf_24 X hr σ 100000 a0 h_a0 v2 c_v2 (z_w ((σ (a1 + 5) v2.toNat) - 1)) (z_w_in _) 0 (z_lit (x := 0) (by decide)) hf
-- SpeedDesk$State.lateOfAll(LSpeedDesk$Chip;)I
section S_X7_lateOfAll
variable {p : Program} {l : Launch} {e : Env} {s : State} {m : MethodId} {args : Array Value} {below : List Frame} {meth : Method} {c : Code} {D : va_G} {cA : Nat → ClassId} {sa ad : Nat → Nat} {bs : Nat} {q : Int}
set_option maxHeartbeats 4000000 in
set_option maxRecDepth 100000 in
theorem A_X7_lateOfAll_4 (X : AX p s m args meth c D cA sa bs cX7_lateOfAll 4 RX7) (hr : meth.sig.returnType = (some .int)) (σ : Nat → Nat → Int) : ∀ (k : Nat) (a0 : Nat) (h_a0 : a0 ∈ ax_iX7) (a1 : Nat) (h_a1 : a1 ∈ ax_iX1) (v2 : Int) (c_v2 : Z_I v2) (v3 : Int) (c_v3 : Z_I v3), f_X7_lateOfAll_4 k a0 a1 v2 v3 σ = some q → AW p l e (ax_rm 0 0 0) s m args below meth c D cA ad bs 788 SHp 0 0 (ax_MQ below args s D cA ad bs 788 SHp 0 0 (some (z_i q)) (Z_I q) σ) 4 4 [(0, .ref (ad a0)), (1, .ref (ad a1)), (2, z_i v2), (3, z_i v3)] [] σ := by
  intro k
  induction k with
  | zero =>
    intro a0 h_a0 a1 h_a1 v2 c_v2 v3 c_v3 hf
    unfold f_X7_lateOfAll_4 at hf
    cases hf
  | succ k ih =>
    intro a0 h_a0 a1 h_a1 v2 c_v2 v3 c_v3 hf
    unfold f_X7_lateOfAll_4 at hf
    refine aw_iload_n X 3 dX7_lateOfAll_4 rfl rfl ?_
    refine aw_aload_n X 1 dX7_lateOfAll_5 rfl rfl ?_
    refine aw_getI X (sX1_0 a1 h_a1) fX7_105 rfl dX7_lateOfAll_6 (fun c1 => ?_)
    refine aw_icmp_ge X (tgt := 27) c_v3 c1 dX7_lateOfAll_9 (by decide) (fun h2 => ?_) (fun h2 => ?_)
    · rw [if_pos h2] at hf
      refine aw_iload_n X 2 dX7_lateOfAll_27 rfl rfl ?_
      obtain rfl := Option.some.inj hf
      exact aw_iret X c_v2 hr rfl dX7_lateOfAll_28
    · rw [if_neg h2] at hf
      refine aw_iload_n X 2 dX7_lateOfAll_12 rfl rfl ?_
      refine aw_aload_n X 0 dX7_lateOfAll_13 rfl rfl ?_
      refine aw_getR X (sX7_0 a0 h_a0) fX7_21 rfl dX7_lateOfAll_14 ?_
      refine aw_iload_n X 3 dX7_lateOfAll_17 rfl rfl ?_
      obtain ⟨g3, hf⟩ := z_gd hf
      refine aw_iald X (j := v3.toNat) (sX7_4 a0 h_a0) c_v3 g3.1 g3.2 rfl dX7_lateOfAll_18 (fun c4 => ?_)
      refine aw_iadd X dX7_lateOfAll_19 ?_
      refine aw_istore_n X [(2, z_i (z_w (v2 + (σ (a0 + 4) v3.toNat)))), (0, .ref (ad a0)), (1, .ref (ad a1)), (3, z_i v3)] dX7_lateOfAll_20 rfl (by decide) rfl ?_
      refine aw_iinc X 3 [(3, z_i (z_w (v3 + 1))), (2, z_i (z_w (v2 + (σ (a0 + 4) v3.toNat)))), (0, .ref (ad a0)), (1, .ref (ad a1))] dX7_lateOfAll_21 rfl (by decide) rfl ?_
      refine aw_goto X (tgt := 4) dX7_lateOfAll_24 (by decide) ?_
      refine aw_sub [2, 3, 1, 0] rfl ?_
      exact ih a0 h_a0 a1 h_a1 (z_w (v2 + (σ (a0 + 4) v3.toNat))) (z_w_in _) (z_w (v3 + 1)) (z_w_in _) hf
end S_X7_lateOfAll
set_option maxHeartbeats 4000000 in
set_option maxRecDepth 100000 in
theorem C_X7_lateOfAll (l : Launch) (D : va_G) (cA : Nat → ClassId) (sa ad : Nat → Nat) (bs : Nat) (a0 : Nat) (h_a0 : a0 ∈ ax_iX7) (a1 : Nat) (h_a1 : a1 ∈ ax_iX1) (σ : Nat → Nat → Int) (q : Int) (hf : f_X7_lateOfAll a0 a1 σ = some q) : AM l D cA sa ad bs 788 SHp yX7_lateOfAll cX7_lateOfAll 4 (some .int) 0 [.ref (ad a0), .ref (ad a1)] σ (some (z_i q)) (Z_I q) σ := by
  refine am_of (by decide +kernel) (Nat.le_of_ble_eq_true rfl) (fun p e s m args below meth c X hr => ?_)
  refine aw_lv (lv' := [(0, .ref (ad a0)), (1, .ref (ad a1))]) rfl ?_
  unfold f_X7_lateOfAll at hf
  refine aw_iconst X dX7_lateOfAll_0 ?_
  refine aw_istore_n X [(2, z_i 0), (0, .ref (ad a0)), (1, .ref (ad a1))] dX7_lateOfAll_1 rfl (by decide) rfl ?_
  refine aw_iconst X dX7_lateOfAll_2 ?_
  refine aw_istore_n X [(3, z_i 0), (2, z_i 0), (0, .ref (ad a0)), (1, .ref (ad a1))] dX7_lateOfAll_3 rfl (by decide) rfl ?_
  refine aw_sub [2, 3, 1, 0] rfl ?_
  exact A_X7_lateOfAll_4 X hr σ 100000 a0 h_a0 a1 h_a1 0 (z_lit (x := 0) (by decide)) 0 (z_lit (x := 0) (by decide)) hf
-- SpeedDesk$State.isNoLater(LSpeedDesk$Chip;LSpeedDesk$State;)Z
section S_X7_isNoLater
variable {p : Program} {l : Launch} {e : Env} {s : State} {m : MethodId} {args : Array Value} {below : List Frame} {meth : Method} {c : Code} {D : va_G} {cA : Nat → ClassId} {sa ad : Nat → Nat} {bs : Nat} {q : Int}
set_option maxHeartbeats 4000000 in
set_option maxRecDepth 100000 in
theorem A_X7_isNoLater_2 (X : AX p s m args meth c D cA sa bs cX7_isNoLater 4 RX7) (hr : meth.sig.returnType = (some .boolean)) (σ : Nat → Nat → Int) : ∀ (k : Nat) (a0 : Nat) (h_a0 : a0 ∈ ax_iX7) (a1 : Nat) (h_a1 : a1 ∈ ax_iX1) (a2 : Nat) (h_a2 : a2 ∈ ax_iX7) (v3 : Int) (c_v3 : Z_I v3), f_X7_isNoLater_2 k a0 a1 a2 v3 σ = some q → AW p l e (ax_rm 0 0 0) s m args below meth c D cA ad bs 788 SHp 0 0 (ax_MQ below args s D cA ad bs 788 SHp 0 0 (some (z_i q)) (q = 0 ∨ q = 1) σ) 4 2 [(0, .ref (ad a0)), (1, .ref (ad a1)), (2, .ref (ad a2)), (3, z_i v3)] [] σ := by
  intro k
  induction k with
  | zero =>
    intro a0 h_a0 a1 h_a1 a2 h_a2 v3 c_v3 hf
    unfold f_X7_isNoLater_2 at hf
    cases hf
  | succ k ih =>
    intro a0 h_a0 a1 h_a1 a2 h_a2 v3 c_v3 hf
    unfold f_X7_isNoLater_2 at hf
    refine aw_iload_n X 3 dX7_isNoLater_2 rfl rfl ?_
    refine aw_aload_n X 1 dX7_isNoLater_3 rfl rfl ?_
    refine aw_getI X (sX1_0 a1 h_a1) fX7_105 rfl dX7_isNoLater_4 (fun c1 => ?_)
    refine aw_icmp_ge X (tgt := 33) c_v3 c1 dX7_isNoLater_7 (by decide) (fun h2 => ?_) (fun h2 => ?_)
    · rw [if_pos h2] at hf
      refine aw_iconst X dX7_isNoLater_33 ?_
      obtain rfl := Option.some.inj hf
      exact aw_zret X (Or.inr rfl) hr (Or.inr rfl) rfl dX7_isNoLater_34
    · rw [if_neg h2] at hf
      refine aw_aload_n X 0 dX7_isNoLater_10 rfl rfl ?_
      refine aw_getR X (sX7_0 a0 h_a0) fX7_21 rfl dX7_isNoLater_11 ?_
      refine aw_iload_n X 3 dX7_isNoLater_14 rfl rfl ?_
      obtain ⟨g3, hf⟩ := z_gd hf
      refine aw_iald X (j := v3.toNat) (sX7_4 a0 h_a0) c_v3 g3.1 g3.2 rfl dX7_isNoLater_15 (fun c4 => ?_)
      refine aw_aload_n X 2 dX7_isNoLater_16 rfl rfl ?_
      refine aw_getR X (sX7_0 a2 h_a2) fX7_21 rfl dX7_isNoLater_17 ?_
      refine aw_iload_n X 3 dX7_isNoLater_20 rfl rfl ?_
      obtain ⟨g5, hf⟩ := z_gd hf
      refine aw_iald X (j := v3.toNat) (sX7_4 a2 h_a2) c_v3 g5.1 g5.2 rfl dX7_isNoLater_21 (fun c6 => ?_)
      refine aw_icmp_le X (tgt := 27) c4 c6 dX7_isNoLater_22 (by decide) (fun h7 => ?_) (fun h7 => ?_)
      · rw [if_pos h7] at hf
        refine aw_iinc X 3 [(3, z_i (z_w (v3 + 1))), (0, .ref (ad a0)), (1, .ref (ad a1)), (2, .ref (ad a2))] dX7_isNoLater_27 rfl (by decide) rfl ?_
        refine aw_goto X (tgt := 2) dX7_isNoLater_30 (by decide) ?_
        refine aw_sub [1, 2, 3, 0] rfl ?_
        exact ih a0 h_a0 a1 h_a1 a2 h_a2 (z_w (v3 + 1)) (z_w_in _) hf
      · rw [if_neg h7] at hf
        refine aw_iconst X dX7_isNoLater_25 ?_
        obtain rfl := Option.some.inj hf
        exact aw_zret X (Or.inl rfl) hr (Or.inl rfl) rfl dX7_isNoLater_26
end S_X7_isNoLater
set_option maxHeartbeats 4000000 in
set_option maxRecDepth 100000 in
theorem C_X7_isNoLater (l : Launch) (D : va_G) (cA : Nat → ClassId) (sa ad : Nat → Nat) (bs : Nat) (a0 : Nat) (h_a0 : a0 ∈ ax_iX7) (a1 : Nat) (h_a1 : a1 ∈ ax_iX1) (a2 : Nat) (h_a2 : a2 ∈ ax_iX7) (σ : Nat → Nat → Int) (q : Int) (hf : f_X7_isNoLater a0 a1 a2 σ = some q) : AM l D cA sa ad bs 788 SHp yX7_isNoLater cX7_isNoLater 4 (some .boolean) 0 [.ref (ad a0), .ref (ad a1), .ref (ad a2)] σ (some (z_i q)) (q = 0 ∨ q = 1) σ := by
  refine am_of (by decide +kernel) (Nat.le_of_ble_eq_true rfl) (fun p e s m args below meth c X hr => ?_)
  refine aw_lv (lv' := [(0, .ref (ad a0)), (1, .ref (ad a1)), (2, .ref (ad a2))]) rfl ?_
  unfold f_X7_isNoLater at hf
  refine aw_iconst X dX7_isNoLater_0 ?_
  refine aw_istore_n X [(3, z_i 0), (0, .ref (ad a0)), (1, .ref (ad a1)), (2, .ref (ad a2))] dX7_isNoLater_1 rfl (by decide) rfl ?_
  refine aw_sub [1, 2, 3, 0] rfl ?_
  exact A_X7_isNoLater_2 X hr σ 100000 a0 h_a0 a1 h_a1 a2 h_a2 0 (z_lit (x := 0) (by decide)) hf
-- SpeedDesk.withBit(IIZ)I
section S_X11_withBit
variable {p : Program} {l : Launch} {e : Env} {s : State} {m : MethodId} {args : Array Value} {below : List Frame} {meth : Method} {c : Code} {D : va_G} {cA : Nat → ClassId} {sa ad : Nat → Nat} {bs : Nat} {q : Int}

end S_X11_withBit
set_option maxHeartbeats 4000000 in
set_option maxRecDepth 100000 in
theorem C_X11_withBit (l : Launch) (D : va_G) (cA : Nat → ClassId) (sa ad : Nat → Nat) (bs : Nat) (v0 : Int) (c_v0 : Z_I v0) (v1 : Int) (c_v1 : Z_I v1) (v2 : Int) (c_v2 : Z_I v2) (σ : Nat → Nat → Int) (q : Int) (hf : f_X11_withBit v0 v1 v2 σ = some q) : AM l D cA sa ad bs 788 SHp yX11_withBit cX11_withBit 3 (some .int) 0 [z_i v0, z_i v1, z_i v2] σ (some (z_i q)) (Z_I q) σ := by
  refine am_of (by decide +kernel) (Nat.le_of_ble_eq_true rfl) (fun p e s m args below meth c X hr => ?_)
  refine aw_lv (lv' := [(0, z_i v0), (1, z_i v1), (2, z_i v2)]) rfl ?_
  unfold f_X11_withBit at hf
  refine aw_iload_n X 1 dX11_withBit_0 rfl rfl ?_
  refine aw_if_lt X (tgt := 10) c_v1 dX11_withBit_1 (by decide) (fun h1 => ?_) (fun h1 => ?_)
  · rw [if_pos h1] at hf
    refine aw_iload_n X 0 dX11_withBit_10 rfl rfl ?_
    obtain rfl := Option.some.inj hf
    exact aw_iret X c_v0 hr rfl dX11_withBit_11
  · rw [if_neg h1] at hf
    refine aw_iload_n X 1 dX11_withBit_4 rfl rfl ?_
    refine aw_bipush X dX11_withBit_5 (by decide) ?_
    refine aw_icmp_le X (tgt := 12) c_v1 (z_lit (x := 31) (by decide)) dX11_withBit_7 (by decide) (fun h2 => ?_) (fun h2 => ?_)
    · rw [if_pos h2] at hf
      refine aw_iload_n X 2 dX11_withBit_12 rfl rfl ?_
      refine aw_if_eq X (tgt := 24) c_v2 dX11_withBit_13 (by decide) (fun h3 => ?_) (fun h3 => ?_)
      · rw [if_pos h3] at hf
        refine aw_iload_n X 0 dX11_withBit_24 rfl rfl ?_
        refine aw_iconst X dX11_withBit_25 ?_
        refine aw_iload_n X 1 dX11_withBit_26 rfl rfl ?_
        refine aw_ishl X dX11_withBit_27 ?_
        refine aw_iconst X dX11_withBit_28 ?_
        refine aw_ixor X dX11_withBit_29 ?_
        refine aw_iand X dX11_withBit_30 ?_
        obtain rfl := Option.some.inj hf
        exact aw_iret X (z_and_in _ _) hr rfl dX11_withBit_31
      · rw [if_neg h3] at hf
        refine aw_iload_n X 0 dX11_withBit_16 rfl rfl ?_
        refine aw_iconst X dX11_withBit_17 ?_
        refine aw_iload_n X 1 dX11_withBit_18 rfl rfl ?_
        refine aw_ishl X dX11_withBit_19 ?_
        refine aw_ior X dX11_withBit_20 ?_
        refine aw_goto X (tgt := 31) dX11_withBit_21 (by decide) ?_
        obtain rfl := Option.some.inj hf
        exact aw_iret X (z_or_in _ _) hr rfl dX11_withBit_31
    · rw [if_neg h2] at hf
      refine aw_iload_n X 0 dX11_withBit_10 rfl rfl ?_
      obtain rfl := Option.some.inj hf
      exact aw_iret X c_v0 hr rfl dX11_withBit_11
-- SpeedDesk$State.tasksWithRest(LSpeedDesk$Chip;)I
section S_X7_tasksWithRest
variable {p : Program} {l : Launch} {e : Env} {s : State} {m : MethodId} {args : Array Value} {below : List Frame} {meth : Method} {c : Code} {D : va_G} {cA : Nat → ClassId} {sa ad : Nat → Nat} {bs : Nat} {q : Int}
set_option maxHeartbeats 4000000 in
set_option maxRecDepth 100000 in
theorem A_X7_tasksWithRest_28 (X : AX p s m args meth c D cA sa bs cX7_tasksWithRest 4 RX7) (hr : meth.sig.returnType = (some .int)) (σ : Nat → Nat → Int) (K4 : Nat → Nat → Int → Int → (Nat → Nat → Int) → Option Int) (hK4 : ∀ (a0 : Nat) (h_a0 : a0 ∈ ax_iX7) (a1 : Nat) (h_a1 : a1 ∈ ax_iX1) (v2 : Int) (c_v2 : Z_I v2) (v3 : Int) (c_v3 : Z_I v3), K4 a0 a1 v2 v3 σ = some q → AW p l e (ax_rm 1 0 0) s m args below meth c D cA ad bs 788 SHp 0 0 (ax_MQ below args s D cA ad bs 788 SHp 0 0 (some (z_i q)) (Z_I q) σ) 4 4 [(0, .ref (ad a0)), (1, .ref (ad a1)), (2, z_i v2), (3, z_i v3)] [] σ) (a0 : Nat) (h_a0 : a0 ∈ ax_iX7) (a1 : Nat) (h_a1 : a1 ∈ ax_iX1) (v3 : Int) (c_v3 : Z_I v3) (t0 : Int) (c_t0 : Z_I t0) (t1 : Int) (c_t1 : Z_I t1) (t2 : Int) (c_t2 : Z_I t2) (hf : f_X7_tasksWithRest_28 K4 a0 a1 v3 t0 t1 t2 σ = some q) : AW p l e (ax_rm 1 0 0) s m args below meth c D cA ad bs 788 SHp 0 0 (ax_MQ below args s D cA ad bs 788 SHp 0 0 (some (z_i q)) (Z_I q) σ) 4 28 [(0, .ref (ad a0)), (1, .ref (ad a1)), (3, z_i v3)] [z_i t0, z_i t1, z_i t2] σ := by
  unfold f_X7_tasksWithRest_28 at hf
  obtain ⟨q6, e7, hf⟩ := z_bd hf
  refine aw_callN X [z_i t2, z_i t1, z_i t0] [] [z_i q6] cX7_108 (C_X11_withBit l D cA sa ad bs t2 c_t2 t1 c_t1 t0 c_t0 σ q6 e7) rfl ⟨(Nat.le_of_ble_eq_true rfl), (Nat.le_of_ble_eq_true rfl), (Nat.le_of_ble_eq_true rfl), (Nat.le_of_ble_eq_true rfl)⟩ rfl (Nat.le_of_ble_eq_true rfl) rfl dX7_tasksWithRest_28 (fun p8 => ?_)
  refine aw_istore_n X [(2, z_i q6), (0, .ref (ad a0)), (1, .ref (ad a1)), (3, z_i v3)] dX7_tasksWithRest_31 rfl (by decide) rfl ?_
  refine aw_iinc X 3 [(3, z_i (z_w (v3 + 1))), (2, z_i q6), (0, .ref (ad a0)), (1, .ref (ad a1))] dX7_tasksWithRest_32 rfl (by decide) rfl ?_
  refine aw_goto X (tgt := 4) dX7_tasksWithRest_35 (by decide) ?_
  refine aw_sub [2, 3, 1, 0] rfl ?_
  exact hK4 a0 h_a0 a1 h_a1 q6 p8 (z_w (v3 + 1)) (z_w_in _) hf
set_option maxHeartbeats 4000000 in
set_option maxRecDepth 100000 in
theorem A_X7_tasksWithRest_4 (X : AX p s m args meth c D cA sa bs cX7_tasksWithRest 4 RX7) (hr : meth.sig.returnType = (some .int)) (σ : Nat → Nat → Int) : ∀ (k : Nat) (a0 : Nat) (h_a0 : a0 ∈ ax_iX7) (a1 : Nat) (h_a1 : a1 ∈ ax_iX1) (v2 : Int) (c_v2 : Z_I v2) (v3 : Int) (c_v3 : Z_I v3), f_X7_tasksWithRest_4 k a0 a1 v2 v3 σ = some q → AW p l e (ax_rm 1 0 0) s m args below meth c D cA ad bs 788 SHp 0 0 (ax_MQ below args s D cA ad bs 788 SHp 0 0 (some (z_i q)) (Z_I q) σ) 4 4 [(0, .ref (ad a0)), (1, .ref (ad a1)), (2, z_i v2), (3, z_i v3)] [] σ := by
  intro k
  induction k with
  | zero =>
    intro a0 h_a0 a1 h_a1 v2 c_v2 v3 c_v3 hf
    unfold f_X7_tasksWithRest_4 at hf
    cases hf
  | succ k ih =>
    intro a0 h_a0 a1 h_a1 v2 c_v2 v3 c_v3 hf
    unfold f_X7_tasksWithRest_4 at hf
    refine aw_iload_n X 3 dX7_tasksWithRest_4 rfl rfl ?_
    refine aw_aload_n X 1 dX7_tasksWithRest_5 rfl rfl ?_
    refine aw_getI X (sX1_0 a1 h_a1) fX7_105 rfl dX7_tasksWithRest_6 (fun c1 => ?_)
    refine aw_icmp_ge X (tgt := 38) c_v3 c1 dX7_tasksWithRest_9 (by decide) (fun h2 => ?_) (fun h2 => ?_)
    · rw [if_pos h2] at hf
      refine aw_iload_n X 2 dX7_tasksWithRest_38 rfl rfl ?_
      obtain rfl := Option.some.inj hf
      exact aw_iret X c_v2 hr rfl dX7_tasksWithRest_39
    · rw [if_neg h2] at hf
      refine aw_iload_n X 2 dX7_tasksWithRest_12 rfl rfl ?_
      refine aw_iload_n X 3 dX7_tasksWithRest_13 rfl rfl ?_
      refine aw_aload_n X 0 dX7_tasksWithRest_14 rfl rfl ?_
      refine aw_getR X (sX7_0 a0 h_a0) fX7_15 rfl dX7_tasksWithRest_15 ?_
      refine aw_iload_n X 3 dX7_tasksWithRest_18 rfl rfl ?_
      obtain ⟨g3, hf⟩ := z_gd hf
      refine aw_iald X (j := v3.toNat) (sX7_2 a0 h_a0) c_v3 g3.1 g3.2 rfl dX7_tasksWithRest_19 (fun c4 => ?_)
      refine aw_if_le X (tgt := 27) c4 dX7_tasksWithRest_20 (by decide) (fun h5 => ?_) (fun h5 => ?_)
      · simp only [if_pos h5] at hf
        refine aw_iconst X dX7_tasksWithRest_27 ?_
        refine aw_sub [0, 1, 3] rfl ?_
        exact A_X7_tasksWithRest_28 X hr σ (f_X7_tasksWithRest_4 k) ih a0 h_a0 a1 h_a1 v3 c_v3 0 (z_lit (x := 0) (by decide)) v3 c_v3 v2 c_v2 hf
      · simp only [if_neg h5] at hf
        refine aw_iconst X dX7_tasksWithRest_23 ?_
        refine aw_goto X (tgt := 28) dX7_tasksWithRest_24 (by decide) ?_
        refine aw_sub [0, 1, 3] rfl ?_
        exact A_X7_tasksWithRest_28 X hr σ (f_X7_tasksWithRest_4 k) ih a0 h_a0 a1 h_a1 v3 c_v3 1 (z_lit (x := 1) (by decide)) v3 c_v3 v2 c_v2 hf
end S_X7_tasksWithRest
set_option maxHeartbeats 4000000 in
set_option maxRecDepth 100000 in
theorem C_X7_tasksWithRest (l : Launch) (D : va_G) (cA : Nat → ClassId) (sa ad : Nat → Nat) (bs : Nat) (a0 : Nat) (h_a0 : a0 ∈ ax_iX7) (a1 : Nat) (h_a1 : a1 ∈ ax_iX1) (σ : Nat → Nat → Int) (q : Int) (hf : f_X7_tasksWithRest a0 a1 σ = some q) : AM l D cA sa ad bs 788 SHp yX7_tasksWithRest cX7_tasksWithRest 4 (some .int) 1 [.ref (ad a0), .ref (ad a1)] σ (some (z_i q)) (Z_I q) σ := by
  refine am_of (by decide +kernel) (Nat.le_of_ble_eq_true rfl) (fun p e s m args below meth c X hr => ?_)
  refine aw_lv (lv' := [(0, .ref (ad a0)), (1, .ref (ad a1))]) rfl ?_
  unfold f_X7_tasksWithRest at hf
  refine aw_iconst X dX7_tasksWithRest_0 ?_
  refine aw_istore_n X [(2, z_i 0), (0, .ref (ad a0)), (1, .ref (ad a1))] dX7_tasksWithRest_1 rfl (by decide) rfl ?_
  refine aw_iconst X dX7_tasksWithRest_2 ?_
  refine aw_istore_n X [(3, z_i 0), (2, z_i 0), (0, .ref (ad a0)), (1, .ref (ad a1))] dX7_tasksWithRest_3 rfl (by decide) rfl ?_
  refine aw_sub [2, 3, 1, 0] rfl ?_
  exact A_X7_tasksWithRest_4 X hr σ 100000 a0 h_a0 a1 h_a1 0 (z_lit (x := 0) (by decide)) 0 (z_lit (x := 0) (by decide)) hf
-- SpeedDesk$State.mostLoaded(LSpeedDesk$Chip;)I
section S_X7_mostLoaded
variable {p : Program} {l : Launch} {e : Env} {s : State} {m : MethodId} {args : Array Value} {below : List Frame} {meth : Method} {c : Code} {D : va_G} {cA : Nat → ClassId} {sa ad : Nat → Nat} {bs : Nat} {q : Int}
set_option maxHeartbeats 4000000 in
set_option maxRecDepth 100000 in
theorem A_X7_mostLoaded_4 (X : AX p s m args meth c D cA sa bs cX7_mostLoaded 4 RX7) (hr : meth.sig.returnType = (some .int)) (σ : Nat → Nat → Int) : ∀ (k : Nat) (a0 : Nat) (h_a0 : a0 ∈ ax_iX7) (a1 : Nat) (h_a1 : a1 ∈ ax_iX1) (v2 : Int) (c_v2 : Z_I v2) (v3 : Int) (c_v3 : Z_I v3), f_X7_mostLoaded_4 k a0 a1 v2 v3 σ = some q → AW p l e (ax_rm 0 0 0) s m args below meth c D cA ad bs 788 SHp 0 0 (ax_MQ below args s D cA ad bs 788 SHp 0 0 (some (z_i q)) (Z_I q) σ) 4 4 [(0, .ref (ad a0)), (1, .ref (ad a1)), (2, z_i v2), (3, z_i v3)] [] σ := by
  intro k
  induction k with
  | zero =>
    intro a0 h_a0 a1 h_a1 v2 c_v2 v3 c_v3 hf
    unfold f_X7_mostLoaded_4 at hf
    cases hf
  | succ k ih =>
    intro a0 h_a0 a1 h_a1 v2 c_v2 v3 c_v3 hf
    unfold f_X7_mostLoaded_4 at hf
    refine aw_iload_n X 3 dX7_mostLoaded_4 rfl rfl ?_
    refine aw_aload_n X 1 dX7_mostLoaded_5 rfl rfl ?_
    refine aw_getI X (sX1_0 a1 h_a1) fX7_105 rfl dX7_mostLoaded_6 (fun c1 => ?_)
    refine aw_icmp_ge X (tgt := 40) c_v3 c1 dX7_mostLoaded_9 (by decide) (fun h2 => ?_) (fun h2 => ?_)
    · rw [if_pos h2] at hf
      refine aw_iload_n X 2 dX7_mostLoaded_40 rfl rfl ?_
      obtain rfl := Option.some.inj hf
      exact aw_iret X c_v2 hr rfl dX7_mostLoaded_41
    · rw [if_neg h2] at hf
      refine aw_iload_n X 2 dX7_mostLoaded_12 rfl rfl ?_
      refine aw_iconst X dX7_mostLoaded_13 ?_
      refine aw_icmp_eq X (tgt := 32) c_v2 (z_lit (x := (-1)) (by decide)) dX7_mostLoaded_14 (by decide) (fun h3 => ?_) (fun h3 => ?_)
      · rw [if_pos h3] at hf
        refine aw_iload_n X 3 dX7_mostLoaded_32 rfl rfl ?_
        refine aw_istore_n X [(2, z_i v3), (0, .ref (ad a0)), (1, .ref (ad a1)), (3, z_i v3)] dX7_mostLoaded_33 rfl (by decide) rfl ?_
        refine aw_iinc X 3 [(3, z_i (z_w (v3 + 1))), (2, z_i v3), (0, .ref (ad a0)), (1, .ref (ad a1))] dX7_mostLoaded_34 rfl (by decide) rfl ?_
        refine aw_goto X (tgt := 4) dX7_mostLoaded_37 (by decide) ?_
        refine aw_sub [2, 3, 1, 0] rfl ?_
        exact ih a0 h_a0 a1 h_a1 v3 c_v3 (z_w (v3 + 1)) (z_w_in _) hf
      · rw [if_neg h3] at hf
        refine aw_aload_n X 0 dX7_mostLoaded_17 rfl rfl ?_
        refine aw_getR X (sX7_0 a0 h_a0) fX7_18 rfl dX7_mostLoaded_18 ?_
        refine aw_iload_n X 3 dX7_mostLoaded_21 rfl rfl ?_
        obtain ⟨g4, hf⟩ := z_gd hf
        refine aw_iald X (j := v3.toNat) (sX7_3 a0 h_a0) c_v3 g4.1 g4.2 rfl dX7_mostLoaded_22 (fun c5 => ?_)
        refine aw_aload_n X 0 dX7_mostLoaded_23 rfl rfl ?_
        refine aw_getR X (sX7_0 a0 h_a0) fX7_18 rfl dX7_mostLoaded_24 ?_
        refine aw_iload_n X 2 dX7_mostLoaded_27 rfl rfl ?_
        obtain ⟨g6, hf⟩ := z_gd hf
        refine aw_iald X (j := v2.toNat) (sX7_3 a0 h_a0) c_v2 g6.1 g6.2 rfl dX7_mostLoaded_28 (fun c7 => ?_)
        refine aw_icmp_le X (tgt := 34) c5 c7 dX7_mostLoaded_29 (by decide) (fun h8 => ?_) (fun h8 => ?_)
        · simp only [if_pos h8] at hf
          refine aw_iinc X 3 [(3, z_i (z_w (v3 + 1))), (0, .ref (ad a0)), (1, .ref (ad a1)), (2, z_i v2)] dX7_mostLoaded_34 rfl (by decide) rfl ?_
          refine aw_goto X (tgt := 4) dX7_mostLoaded_37 (by decide) ?_
          refine aw_sub [1, 2, 3, 0] rfl ?_
          exact ih a0 h_a0 a1 h_a1 v2 c_v2 (z_w (v3 + 1)) (z_w_in _) hf
        · simp only [if_neg h8] at hf
          refine aw_iload_n X 3 dX7_mostLoaded_32 rfl rfl ?_
          refine aw_istore_n X [(2, z_i v3), (0, .ref (ad a0)), (1, .ref (ad a1)), (3, z_i v3)] dX7_mostLoaded_33 rfl (by decide) rfl ?_
          refine aw_iinc X 3 [(3, z_i (z_w (v3 + 1))), (2, z_i v3), (0, .ref (ad a0)), (1, .ref (ad a1))] dX7_mostLoaded_34 rfl (by decide) rfl ?_
          refine aw_goto X (tgt := 4) dX7_mostLoaded_37 (by decide) ?_
          refine aw_sub [2, 3, 1, 0] rfl ?_
          exact ih a0 h_a0 a1 h_a1 v3 c_v3 (z_w (v3 + 1)) (z_w_in _) hf
end S_X7_mostLoaded
set_option maxHeartbeats 4000000 in
set_option maxRecDepth 100000 in
theorem C_X7_mostLoaded (l : Launch) (D : va_G) (cA : Nat → ClassId) (sa ad : Nat → Nat) (bs : Nat) (a0 : Nat) (h_a0 : a0 ∈ ax_iX7) (a1 : Nat) (h_a1 : a1 ∈ ax_iX1) (σ : Nat → Nat → Int) (q : Int) (hf : f_X7_mostLoaded a0 a1 σ = some q) : AM l D cA sa ad bs 788 SHp yX7_mostLoaded cX7_mostLoaded 4 (some .int) 0 [.ref (ad a0), .ref (ad a1)] σ (some (z_i q)) (Z_I q) σ := by
  refine am_of (by decide +kernel) (Nat.le_of_ble_eq_true rfl) (fun p e s m args below meth c X hr => ?_)
  refine aw_lv (lv' := [(0, .ref (ad a0)), (1, .ref (ad a1))]) rfl ?_
  unfold f_X7_mostLoaded at hf
  refine aw_iconst X dX7_mostLoaded_0 ?_
  refine aw_istore_n X [(2, z_i (-1)), (0, .ref (ad a0)), (1, .ref (ad a1))] dX7_mostLoaded_1 rfl (by decide) rfl ?_
  refine aw_iconst X dX7_mostLoaded_2 ?_
  refine aw_istore_n X [(3, z_i 0), (2, z_i (-1)), (0, .ref (ad a0)), (1, .ref (ad a1))] dX7_mostLoaded_3 rfl (by decide) rfl ?_
  refine aw_sub [2, 3, 1, 0] rfl ?_
  exact A_X7_mostLoaded_4 X hr σ 100000 a0 h_a0 a1 h_a1 (-1) (z_lit (x := (-1)) (by decide)) 0 (z_lit (x := 0) (by decide)) hf
-- SpeedDesk$Log.write(IIII)V
section S_X4_write
variable {p : Program} {l : Launch} {e : Env} {s : State} {m : MethodId} {args : Array Value} {below : List Frame} {meth : Method} {c : Code} {D : va_G} {cA : Nat → ClassId} {sa ad : Nat → Nat} {bs : Nat} {q : (Nat → Nat → Int)}

end S_X4_write
set_option maxHeartbeats 4000000 in
set_option maxRecDepth 100000 in
theorem C_X4_write (l : Launch) (D : va_G) (cA : Nat → ClassId) (sa ad : Nat → Nat) (bs : Nat) (a0 : Nat) (h_a0 : a0 ∈ ax_iX4) (v1 : Int) (c_v1 : Z_I v1) (v2 : Int) (c_v2 : Z_I v2) (v3 : Int) (c_v3 : Z_I v3) (v4 : Int) (c_v4 : Z_I v4) (σ : Nat → Nat → Int) (q : (Nat → Nat → Int)) (hf : f_X4_write a0 v1 v2 v3 v4 σ = some q) : AM l D cA sa ad bs 788 SHp yX4_write cX4_write 6 none 1 [.ref (ad a0), z_i v1, z_i v2, z_i v3, z_i v4] σ none True q := by
  refine am_of (by decide +kernel) (Nat.le_of_ble_eq_true rfl) (fun p e s m args below meth c X hr => ?_)
  refine aw_lv (lv' := [(0, .ref (ad a0)), (1, z_i v1), (2, z_i v2), (3, z_i v3), (4, z_i v4)]) rfl ?_
  unfold f_X4_write at hf
  refine aw_iload_n X 1 dX4_write_0 rfl rfl ?_
  refine aw_bipush X dX4_write_1 (by decide) ?_
  refine aw_fmod X c_v1 (z_lit (x := 100) (by decide)) (by decide) wX4_21 ⟨(Nat.le_of_ble_eq_true rfl), (Nat.le_of_ble_eq_true rfl), (Nat.le_of_ble_eq_true rfl), (Nat.le_of_ble_eq_true rfl)⟩ (Nat.le_of_ble_eq_true rfl) dX4_write_3 ?_
  refine aw_istore X [(5, z_i (z_fmod v1 100)), (0, .ref (ad a0)), (1, z_i v1), (2, z_i v2), (3, z_i v3), (4, z_i v4)] dX4_write_6 (by decide) rfl ?_
  refine aw_aload_n X 1 dX4_write_8 rfl rfl ?_
  refine aw_getR X (sX4_0 a0 h_a0) fX4_9 rfl dX4_write_9 ?_
  refine aw_iload X 0 dX4_write_12 rfl ?_
  refine aw_iload_n X 3 dX4_write_14 rfl rfl ?_
  obtain ⟨g1, hf⟩ := z_gd hf
  refine aw_iast X (j := (z_fmod v1 100).toNat) (sX4_1 a0 h_a0) (z_fmod_in _ _) g1.1 g1.2 rfl c_v2 dX4_write_15 ?_
  refine aw_aload_n X 1 dX4_write_16 rfl rfl ?_
  refine aw_getR X (sX4_0 a0 h_a0) fX4_15 rfl dX4_write_17 ?_
  refine aw_iload X 0 dX4_write_20 rfl ?_
  refine aw_iload_n X 4 dX4_write_22 rfl rfl ?_
  obtain ⟨g2, hf⟩ := z_gd hf
  refine aw_iast X (j := (z_fmod v1 100).toNat) (sX4_2 a0 h_a0) (z_fmod_in _ _) g2.1 g2.2 rfl c_v3 dX4_write_23 ?_
  refine aw_aload_n X 1 dX4_write_24 rfl rfl ?_
  refine aw_getR X (sX4_0 a0 h_a0) fX4_18 rfl dX4_write_25 ?_
  refine aw_iload X 0 dX4_write_28 rfl ?_
  refine aw_iload X 5 dX4_write_30 rfl ?_
  obtain ⟨g3, hf⟩ := z_gd hf
  refine aw_iast X (j := (z_fmod v1 100).toNat) (sX4_3 a0 h_a0) (z_fmod_in _ _) g3.1 g3.2 rfl c_v4 dX4_write_32 ?_
  obtain rfl := Option.some.inj hf
  exact aw_vret X trivial hr rfl dX4_write_33
-- SpeedDesk$Log.read(II)I
section S_X4_read
variable {p : Program} {l : Launch} {e : Env} {s : State} {m : MethodId} {args : Array Value} {below : List Frame} {meth : Method} {c : Code} {D : va_G} {cA : Nat → ClassId} {sa ad : Nat → Nat} {bs : Nat} {q : Int}

end S_X4_read
set_option maxHeartbeats 4000000 in
set_option maxRecDepth 100000 in
theorem C_X4_read (l : Launch) (D : va_G) (cA : Nat → ClassId) (sa ad : Nat → Nat) (bs : Nat) (a0 : Nat) (h_a0 : a0 ∈ ax_iX4) (v1 : Int) (c_v1 : Z_I v1) (v2 : Int) (c_v2 : Z_I v2) (σ : Nat → Nat → Int) (q : Int) (hf : f_X4_read a0 v1 v2 σ = some q) : AM l D cA sa ad bs 788 SHp yX4_read cX4_read 4 (some .int) 1 [.ref (ad a0), z_i v1, z_i v2] σ (some (z_i q)) (Z_I q) σ := by
  refine am_of (by decide +kernel) (Nat.le_of_ble_eq_true rfl) (fun p e s m args below meth c X hr => ?_)
  refine aw_lv (lv' := [(0, .ref (ad a0)), (1, z_i v1), (2, z_i v2)]) rfl ?_
  unfold f_X4_read at hf
  refine aw_iload_n X 1 dX4_read_0 rfl rfl ?_
  refine aw_bipush X dX4_read_1 (by decide) ?_
  refine aw_fmod X c_v1 (z_lit (x := 100) (by decide)) (by decide) wX4_21 ⟨(Nat.le_of_ble_eq_true rfl), (Nat.le_of_ble_eq_true rfl), (Nat.le_of_ble_eq_true rfl), (Nat.le_of_ble_eq_true rfl)⟩ (Nat.le_of_ble_eq_true rfl) dX4_read_3 ?_
  refine aw_istore_n X [(3, z_i (z_fmod v1 100)), (0, .ref (ad a0)), (1, z_i v1), (2, z_i v2)] dX4_read_6 rfl (by decide) rfl ?_
  refine aw_iload_n X 3 dX4_read_7 rfl rfl ?_
  by_cases h1 : v2 = 0
  · rw [if_pos h1] at hf
    refine aw_tabIn X (tgt := 36) c_v2 dX4_read_8 (by omega) (by omega) (by rw [h1]; rfl) (by decide) ?_
    refine aw_aload_n X 1 dX4_read_36 rfl rfl ?_
    refine aw_getR X (sX4_0 a0 h_a0) fX4_9 rfl dX4_read_37 ?_
    refine aw_iload_n X 0 dX4_read_40 rfl rfl ?_
    obtain ⟨g2, hf⟩ := z_gd hf
    refine aw_iald X (j := (z_fmod v1 100).toNat) (sX4_1 a0 h_a0) (z_fmod_in _ _) g2.1 g2.2 rfl dX4_read_41 (fun c3 => ?_)
    obtain rfl := Option.some.inj hf
    exact aw_iret X c3 hr rfl dX4_read_42
  rw [if_neg h1] at hf
  by_cases h4 : v2 = 1
  · rw [if_pos h4] at hf
    refine aw_tabIn X (tgt := 43) c_v2 dX4_read_8 (by omega) (by omega) (by rw [h4]; rfl) (by decide) ?_
    refine aw_aload_n X 1 dX4_read_43 rfl rfl ?_
    refine aw_getR X (sX4_0 a0 h_a0) fX4_15 rfl dX4_read_44 ?_
    refine aw_iload_n X 0 dX4_read_47 rfl rfl ?_
    obtain ⟨g5, hf⟩ := z_gd hf
    refine aw_iald X (j := (z_fmod v1 100).toNat) (sX4_2 a0 h_a0) (z_fmod_in _ _) g5.1 g5.2 rfl dX4_read_48 (fun c6 => ?_)
    obtain rfl := Option.some.inj hf
    exact aw_iret X c6 hr rfl dX4_read_49
  rw [if_neg h4] at hf
  by_cases h7 : v2 = 2
  · rw [if_pos h7] at hf
    refine aw_tabIn X (tgt := 50) c_v2 dX4_read_8 (by omega) (by omega) (by rw [h7]; rfl) (by decide) ?_
    refine aw_aload_n X 1 dX4_read_50 rfl rfl ?_
    refine aw_getR X (sX4_0 a0 h_a0) fX4_18 rfl dX4_read_51 ?_
    refine aw_iload_n X 0 dX4_read_54 rfl rfl ?_
    obtain ⟨g8, hf⟩ := z_gd hf
    refine aw_iald X (j := (z_fmod v1 100).toNat) (sX4_3 a0 h_a0) (z_fmod_in _ _) g8.1 g8.2 rfl dX4_read_55 (fun c9 => ?_)
    obtain rfl := Option.some.inj hf
    exact aw_iret X c9 hr rfl dX4_read_56
  rw [if_neg h7] at hf
  refine aw_tabOut X (tgt := 57) c_v2 dX4_read_8 (by omega) (by decide) ?_
  refine aw_ldc X (x := (-1000000)) dX4_read_57 kX4_27 (by decide) ?_
  obtain rfl := Option.some.inj hf
  exact aw_iret X (z_lit (x := (-1000000)) (by decide)) hr rfl dX4_read_59
